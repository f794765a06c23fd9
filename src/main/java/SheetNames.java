/**
 * Sheet names: a world cut into bands, zones and sheets, with names, neighbours, boxes, ways and a
 * store. The document (shared/DOC.md) tells what each call answers; words in capitals are its own.
 */
public final class SheetNames {
    public static final int NONE = -1;

    private static final int REFUSED_2 = -2;
    private static final int REFUSED_3 = -3;
    private static final int NO_NUMBER = -1000000;
    private static final long NO_EDGE = -9223372036854775808L;

    private static final int POLE = 324000;
    private static final int CAP_EDGE = 316800;
    private static final int ROUND = 1296000;
    private static final int BAND_HEIGHT = 14400;
    private static final int BANDS = 44;
    private static final int NORTH_BANDS = 22;
    private static final int ZONES = 2130;
    private static final int DEEPEST = 4;
    private static final int MOST_CUTS = 6;
    private static final int MOST_SHEETS = 20000000;

    private static final int NORTH = 0;
    private static final int EAST = 1;
    private static final int SOUTH = 2;
    private static final int WEST = 3;
    private static final int ABOVE = 4;
    private static final int STEPS = 5;
    private static final int BETWEEN = 6;

    private static final int MOST_TAPE = 200;
    private static final int FED = 20;
    private static final int MOST_NAME = 40;
    private static final int MOST_QUESTION = 100;
    private static final int MOST_WALKED = 20000;
    private static final int MOST_LISTED = 4000;
    private static final int LEVEL_WEIGHT = 100000000;
    private static final int MOST_PARTS = 200;
    private static final int MOST_PIECES = 60;
    private static final int FIRST_YEAR = 1800;
    private static final int LAST_YEAR = 2100;
    private static final int MOST_STATES = 8;

    private static final int CAN_NOT_STAND = 1;
    private static final int NO_SUCH_NUMBER = 2;
    private static final int FIFTH_PIECE = 3;
    private static final int BLANK = 32;

    /** ZONES of each BAND, and those of all BANDS ahead of it, from the north. */
    private static final int[] BAND_ZONES = {
        15, 15, 15, 30, 30, 30, 30,
        60, 60, 60, 60, 60, 60, 60, 60, 60, 60, 60, 60, 60, 60, 60,
        60, 60, 60, 60, 60, 60, 60, 60, 60, 60, 60, 60, 60, 60, 60,
        30, 30, 30, 30, 15, 15, 15};
    private static final int[] ZONES_AHEAD = {
        0, 15, 30, 45, 75, 105, 135,
        165, 225, 285, 345, 405, 465, 525, 585, 645, 705, 765, 825, 885, 945, 1005,
        1065, 1125, 1185, 1245, 1305, 1365, 1425, 1485, 1545, 1605, 1665, 1725, 1785, 1845, 1905,
        1965, 1995, 2025, 2055, 2085, 2100, 2115};

    private final Atlas now = new Atlas();
    private final Grid grid = now.grid;
    private final Store pieces = now.store;
    private final Atlas[] kept = new Atlas[MOST_STATES];
    private int keptStates = 0;
    private final Tape tape = new Tape();
    private final NameReader reader = new NameReader(grid, tape);
    private final Question question = new Question(reader, tape);
    private final Spot spot = new Spot(grid);
    private final Walk walk = new Walk(grid);
    private final Box area = new Box(grid);
    private final NameText text = new NameText();
    private final NameText otherText = new NameText();
    private final int[] seen = new int[MOST_PARTS];

    public SheetNames() {
        for (int i = 0; i < kept.length; i++) {
            kept[i] = new Atlas();
        }
    }

    public int feed(int a, int b, int c, int d, int e) {
        if (tape.length + FED > MOST_TAPE) {
            return NONE;
        }
        tape.add(a);
        tape.add(b);
        tape.add(c);
        tape.add(d);
        tape.add(e);
        return tape.length;
    }

    public int cut(int level, int r, int c) {
        if (level < 1 || level > DEEPEST || !isFrom(r, 1, MOST_CUTS) || !isFrom(c, 1, MOST_CUTS)) {
            return NONE;
        }
        if (pieces.size > 0) {
            return REFUSED_2;
        }
        if (grid.deepestSheetsIf(level, r, c) > MOST_SHEETS) {
            return REFUSED_3;
        }
        grid.setCuts(level, r, c);
        return grid.sheets[level];
    }

    public int level(int level, int what) {
        if (!isLevel(level)) {
            return NONE;
        }
        switch (what) {
            case 0: return grid.sheets[level];
            case 1: return grid.rows[level];
            case 2: return grid.rowCuts[level];
            case 3: return grid.columnCuts[level];
            case 4: return grid.bandRows[level];
            case 5: return grid.zoneColumns[level];
            default: return NONE;
        }
    }

    // ---- places and names

    public int key(int lat, int lon, int level) {
        if (!isPlace(lat, lon) || !isLevel(level)) {
            return NONE;
        }
        return grid.keyOf(level, lat, lon);
    }

    public int name(int level, int key, int i) {
        if (!grid.hasSheet(level, key) || i < NONE) {
            return NONE;
        }
        spot.put(level, key);
        text.write(spot);
        if (i == NONE) {
            return text.length;
        }
        return i < text.length ? text.bytes[i] : REFUSED_2;
    }

    public int named(int n, int what) {
        if (!isFrom(n, 1, MOST_NAME) || !isFrom(what, 0, 1) || tape.length < n) {
            return NONE;
        }
        boolean right = reader.read(0, n);
        tape.length = 0;
        now.countText(reader, right);
        if (!right) {
            return reader.told();
        }
        return what == 0 ? reader.level : reader.key;
    }

    public long edge(int level, int key, int what) {
        if (!grid.hasSheet(level, key) || !isFrom(what, 0, 7)) {
            return NO_EDGE;
        }
        spot.put(level, key);
        long top = spot.edgeTop(what / 2);
        long bottom = spot.edgeBottom(what / 2);
        long common = commonDivisor(Math.abs(top), bottom);
        if (common < 1) {
            return NO_EDGE;
        }
        return what % 2 == 0 ? top / common : bottom / common;
    }

    public int middle(int level, int key, int what) {
        if (!grid.hasSheet(level, key) || !isFrom(what, 0, 1)) {
            return NO_NUMBER;
        }
        spot.put(level, key);
        return what == 0 ? spot.middleLat() : spot.middleLon();
    }

    public int at(int level, int key, int what) {
        if (!grid.hasSheet(level, key)) {
            return NO_NUMBER;
        }
        spot.put(level, key);
        switch (what) {
            case 0: return spot.row;
            case 1: return spot.place;
            case 2: return spot.length;
            case 3: return spot.band();
            case 4: return spot.zone();
            case 5: return spot.numberOf(level);
            default: return NO_NUMBER;
        }
    }

    public int keyAt(int level, int row, int place) {
        if (!isLevel(level) || !isFrom(row, 0, grid.rows[level] - 1)) {
            return NONE;
        }
        if (!isFrom(place, 0, grid.rowLength(level, row) - 1)) {
            return NONE;
        }
        return grid.rowStart(level, row) + place;
    }

    // ---- nested

    public int parent(int level, int key, int to) {
        if (!grid.hasSheet(level, key) || !isFrom(to, 0, level)) {
            return NONE;
        }
        return grid.keyAbove(level, key, to);
    }

    public int child(int level, int key, int to, int i) {
        if (!grid.hasSheet(level, key) || !isFrom(to, level, DEEPEST) || i < NONE) {
            return NONE;
        }
        spot.put(level, key);
        int many = spot.piecesAt(to);
        if (i == NONE) {
            return many;
        }
        return i < many ? spot.pieceAt(to, i) : REFUSED_2;
    }

    public int common(int lat, int lon, int lat2, int lon2) {
        if (!isPlace(lat, lon) || !isPlace(lat2, lon2)) {
            return NONE;
        }
        for (int level = DEEPEST; level >= 0; level--) {
            if (grid.keyOf(level, lat, lon) == grid.keyOf(level, lat2, lon2)) {
                return level;
            }
        }
        return REFUSED_2;
    }

    // ---- neighbours

    public int neighbour(int level, int key, int side, int i) {
        if (!grid.hasSheet(level, key) || !isFrom(side, NORTH, WEST) || i < NONE) {
            return NONE;
        }
        spot.put(level, key);
        spot.lookAround();
        if (i == NONE) {
            return spot.many[side];
        }
        return i < spot.many[side] ? spot.first[side] + i : REFUSED_2;
    }

    public int around(int level, int key, int i) {
        if (!grid.hasSheet(level, key) || i < NONE) {
            return NONE;
        }
        spot.put(level, key);
        spot.lookAround();
        if (i == NONE) {
            return spot.allBeside();
        }
        return i < spot.allBeside() ? spot.besideKey(i) : REFUSED_2;
    }

    public int side(int level, int a, int b) {
        if (!areSheets(level, a, b) || a == b) {
            return NONE;
        }
        spot.put(level, a);
        spot.lookAround();
        for (int side = NORTH; side <= WEST; side++) {
            if (b >= spot.first[side] && b < spot.first[side] + spot.many[side]) {
                return side;
            }
        }
        return REFUSED_2;
    }

    public int steps(int level, int a, int b) {
        if (!areSheets(level, a, b)) {
            return NONE;
        }
        if (grid.sheets[level] > MOST_WALKED) {
            return REFUSED_3;
        }
        walk.spread(level, a);
        return walk.stepsTo(b);
    }

    public int way(int level, int a, int b, int i) {
        if (!areSheets(level, a, b) || i < 0) {
            return NONE;
        }
        if (grid.sheets[level] > MOST_WALKED) {
            return REFUSED_3;
        }
        walk.spread(level, b);
        return i > walk.stepsTo(a) ? REFUSED_2 : walk.onTheWay(level, a, i);
    }

    public int reach(int level, int key, int d) {
        if (!grid.hasSheet(level, key) || d < 0) {
            return NONE;
        }
        if (grid.sheets[level] > MOST_WALKED) {
            return REFUSED_3;
        }
        walk.spread(level, key);
        return walk.within(d);
    }

    public int farthest(int level, int key, int what) {
        if (!grid.hasSheet(level, key) || !isFrom(what, 0, 1)) {
            return NONE;
        }
        if (grid.sheets[level] > MOST_WALKED) {
            return REFUSED_3;
        }
        walk.spread(level, key);
        int far = walk.farthestKey();
        return what == 0 ? walk.stepsTo(far) : far;
    }

    public int corners(int level, int key, int i) {
        if (!grid.hasSheet(level, key) || i < NONE) {
            return NONE;
        }
        spot.put(level, key);
        spot.lookAtCorners();
        if (i == NONE) {
            return spot.cornerCount;
        }
        return i < spot.cornerCount ? spot.corner[i] : REFUSED_2;
    }

    public int jog(int level, int key, int side) {
        if (!grid.hasSheet(level, key) || (side != NORTH && side != SOUTH)) {
            return NONE;
        }
        spot.put(level, key);
        int beside = side == NORTH ? spot.row - 1 : spot.row + 1;
        if (!isFrom(beside, 0, grid.rows[level] - 1)) {
            return 0;
        }
        return grid.rowLength(level, beside) != spot.length ? 1 : 0;
    }

    // ---- boxes

    public int box(int a, int b, int w, int e, int level, int i) {
        if (!isBox(a, b, w, e) || !isLevel(level) || i < NONE) {
            return NONE;
        }
        area.set(a, b, w, e);
        int many = area.sheetsAt(level);
        if (i == NONE) {
            return many;
        }
        return i < many ? area.sheetAt(level, i) : REFUSED_2;
    }

    public int cover(int a, int b, int w, int e, int level, int i) {
        if (!isBox(a, b, w, e) || !isLevel(level) || i < NONE) {
            return NONE;
        }
        area.set(a, b, w, e);
        if (area.sheetsAt(level) > MOST_LISTED) {
            return REFUSED_2;
        }
        int ahead = 0;
        for (int high = 0; high <= level; high++) {
            int many = area.coverAt(high, level);
            if (i >= 0 && i - ahead < many) {
                return high * LEVEL_WEIGHT + area.coverSheet(high, level, i - ahead);
            }
            ahead += many;
        }
        return i == NONE ? ahead : REFUSED_3;
    }

    public int between(int level, int a, int b) {
        if (!areSheets(level, a, b)) {
            return NONE;
        }
        spot.put(level, a);
        int lat = spot.middleLat();
        int lon = spot.middleLon();
        spot.put(level, b);
        int lat2 = spot.middleLat();
        area.set(Math.min(lat, lat2), Math.max(lat, lat2), lon, spot.middleLon());
        return area.sheetsAt(level);
    }

    // ---- sizes, order, moves

    public int wider(int level, int a, int b) {
        if (!areSheets(level, a, b)) {
            return NO_NUMBER;
        }
        int besideA = grid.rowLength(level, grid.rowOfKey(level, a));
        int besideB = grid.rowLength(level, grid.rowOfKey(level, b));
        return Integer.compare(besideB, besideA);
    }

    public int before(int level, int a, int b) {
        if (!areSheets(level, a, b)) {
            return NO_NUMBER;
        }
        spot.put(level, a);
        text.write(spot);
        spot.put(level, b);
        otherText.write(spot);
        return text.against(otherText);
    }

    public int moved(int lat, int lon, int north, int east, int level) {
        if (!isPlace(lat, lon) || !isLevel(level)) {
            return NONE;
        }
        long lat2 = (long) lat + north;
        long lon2 = (long) lon + east;
        if (!isInt(lat2) || !isInt(lon2)) {
            return REFUSED_2;
        }
        if (lat2 < -POLE || lat2 > POLE) {
            return REFUSED_3;
        }
        return grid.keyOf(level, (int) lat2, (int) Math.floorMod(lon2, (long) ROUND));
    }

    // ---- questions as texts

    public int ask(int n) {
        if (!isFrom(n, 1, MOST_QUESTION) || tape.length < n) {
            return NONE;
        }
        boolean right = question.read(n);
        tape.length = 0;
        now.countText(reader, right);
        return right ? answerTo(question) : reader.told();
    }

    private int answerTo(Question q) {
        if (q.word == ABOVE) {
            return q.level == 0 ? REFUSED_2 : grid.keyAbove(q.level, q.key, q.level - 1);
        }
        if (q.word < ABOVE) {
            return neighbour(q.level, q.key, q.word, 0);
        }
        if (q.level != q.otherLevel) {
            return REFUSED_2;
        }
        if (q.word == STEPS) {
            return steps(q.level, q.key, q.otherKey);
        }
        return between(q.level, q.key, q.otherKey);
    }

    // ---- the store

    public int store(int level, int key, int year) {
        if (!grid.hasSheet(level, key) || !isFrom(year, FIRST_YEAR, LAST_YEAR)) {
            return NONE;
        }
        int storedLevel = grid.storedLevel(level, key);
        int storedKey = grid.keyAbove(level, key, storedLevel);
        return pieces.put(storedLevel, storedKey, year) ? pieces.size : REFUSED_2;
    }

    public int drop(int level, int key) {
        if (!grid.hasSheet(level, key)) {
            return NONE;
        }
        int storedLevel = grid.storedLevel(level, key);
        int i = pieces.find(storedLevel, grid.keyAbove(level, key, storedLevel));
        if (i == NONE) {
            return REFUSED_2;
        }
        int year = pieces.years[i];
        pieces.remove(i);
        return year;
    }

    public int piece(int i, int what) {
        if (i < 0 || !isFrom(what, 0, 2)) {
            return NONE;
        }
        if (i >= pieces.size) {
            return REFUSED_2;
        }
        switch (what) {
            case 0: return pieces.levels[i];
            case 1: return pieces.keys[i];
            default: return pieces.years[i];
        }
    }

    public int shown(int lat, int lon, int what) {
        if (!isPlace(lat, lon) || !isFrom(what, 0, 2)) {
            return NONE;
        }
        pieces.lookAt(lat, lon);
        if (what == 0) {
            return pieces.shownBy;
        }
        if (pieces.shownBy == 0) {
            return REFUSED_2;
        }
        return what == 1 ? pieces.deepestShown : pieces.latestShown;
    }

    public int lacks(int a, int b, int w, int e, int level, int year, int i) {
        if (!isBox(a, b, w, e) || !isLevel(level) || !isFrom(year, 0, LAST_YEAR) || i < NONE) {
            return NONE;
        }
        area.set(a, b, w, e);
        if (area.sheetsAt(level) > MOST_LISTED) {
            return REFUSED_2;
        }
        int found = 0;
        int bottom = area.bottomRow(level);
        for (int row = area.topRow(level); row <= bottom; row++) {
            int many = area.inRow(level, row);
            for (int place = 0; place < many; place++) {
                int key = area.keyFromWest(level, row, place);
                if (!isLacking(level, key, year)) {
                    continue;
                }
                if (found == i) {
                    return key;
                }
                found++;
            }
        }
        return i == NONE ? found : REFUSED_3;
    }

    private boolean isLacking(int level, int key, int year) {
        spot.put(level, key);
        pieces.lookAt(spot.middleLat(), spot.middleLon());
        return pieces.shownBy == 0 || pieces.latestShown < year;
    }

    public int years(int from, int to, int what) {
        if (!isFrom(from, 0, LAST_YEAR) || !isFrom(to, 0, LAST_YEAR) || !isFrom(what, 0, 2)) {
            return NONE;
        }
        int many = 0;
        int earliest = LAST_YEAR;
        int latest = 0;
        for (int i = 0; i < pieces.size; i++) {
            int year = pieces.years[i];
            if (isFrom(year, from, to)) {
                many++;
                earliest = Math.min(earliest, year);
                latest = Math.max(latest, year);
            }
        }
        if (what == 0) {
            return many;
        }
        if (many == 0) {
            return REFUSED_2;
        }
        return what == 1 ? earliest : latest;
    }

    public int renew(int level, int year) {
        if (!isLevel(level) || !isFrom(year, FIRST_YEAR, LAST_YEAR)) {
            return NONE;
        }
        int renewed = 0;
        for (int i = 0; i < pieces.size; i++) {
            if (pieces.levels[i] == level && pieces.years[i] < year) {
                pieces.years[i] = year;
                renewed++;
            }
        }
        return renewed;
    }

    public int oldest(int level, int what) {
        if (!isLevel(level) || !isFrom(what, 0, 2)) {
            return NONE;
        }
        int found = NONE;
        int alike = 0;
        for (int i = 0; i < pieces.size; i++) {
            if (pieces.levels[i] != level) {
                continue;
            }
            if (found == NONE || pieces.years[i] < pieces.years[found]) {
                found = i;
                alike = 0;
            }
            if (pieces.years[i] == pieces.years[found]) {
                alike++;
            }
        }
        if (found == NONE) {
            return REFUSED_2;
        }
        if (what == 0) {
            return pieces.keys[found];
        }
        return what == 1 ? pieces.years[found] : alike;
    }

    public int tidy() {
        int gone = 0;
        // Sheets that a piece can lie in stand ahead of it, so from the end on none is gone too soon.
        for (int i = pieces.size - 1; i >= 0; i--) {
            if (pieces.isNeedless(i)) {
                pieces.remove(i);
                gone++;
            }
        }
        return gone;
    }

    // ---- ways, rows

    public int changes(int lat, int lon, int lat2, int lon2, int n, int level) {
        if (!isPlace(lat, lon) || !isPlace(lat2, lon2) || !isFrom(n, 1, MOST_PARTS) || !isLevel(level)) {
            return NONE;
        }
        int changes = 0;
        int last = grid.keyOf(level, lat, lon);
        for (int i = 1; i <= n; i++) {
            int latThere = lat + Math.floorDiv((lat2 - lat) * i, n);
            int lonThere = lon + Math.floorDiv((lon2 - lon) * i, n);
            int next = grid.keyOf(level, latThere, lonThere);
            if (next != last) {
                changes++;
            }
            last = next;
        }
        return changes;
    }

    public int drawn(int seed, int n, int level) {
        if (!isFrom(n, 1, MOST_PARTS) || !isLevel(level)) {
            return NONE;
        }
        int x = seed & 65535;
        int unlike = 0;
        for (int i = 0; i < n; i++) {
            x = nextDraw(x);
            int lat = x / 4 % 16384 * 39 - 319488;
            x = nextDraw(x);
            int lon = x / 4 % 16384 * 79;
            int key = grid.keyOf(level, lat, lon);
            if (!isSeen(key, unlike) && unlike < seen.length) {
                seen[unlike] = key;
                unlike++;
            }
        }
        return unlike;
    }

    private static int nextDraw(int x) {
        return (25173 * x + 13849) & 65535;
    }

    private boolean isSeen(int key, int many) {
        for (int i = 0; i < many && i < seen.length; i++) {
            if (seen[i] == key) {
                return true;
            }
        }
        return false;
    }

    public int bands(int level, int from, int to) {
        if (!areSheets(level, from, to) || from > to) {
            return NONE;
        }
        int many = 0;
        for (int band = 0; band < BANDS; band++) {
            int first = grid.rowStart(level, band * grid.bandRows[level] + 1);
            int behind = grid.rowStart(level, (band + 1) * grid.bandRows[level] + 1);
            if (from < behind && to >= first) {
                many++;
            }
        }
        return many;
    }

    // ---- kept

    public int count(int what) {
        switch (what) {
            case 0: return pieces.size;
            case 1: return tape.length;
            case 2: return keptStates;
            case 3: return now.right;
            case 4: return now.faulty;
            case 5: return now.endedSoon;
            case 6: return now.noSuchNumber;
            default: return NONE;
        }
    }

    public int keep() {
        if (keptStates >= kept.length) {
            return NONE;
        }
        kept[keptStates].copyFrom(now);
        keptStates++;
        return keptStates;
    }

    public int undo() {
        if (keptStates <= 0) {
            return NONE;
        }
        keptStates--;
        now.copyFrom(kept[keptStates]);
        return keptStates;
    }

    // ---- what an argument may be

    private static boolean isFrom(int n, int least, int most) {
        return n >= least && n <= most;
    }

    private static boolean isLevel(int level) {
        return level >= 0 && level <= DEEPEST;
    }

    private static boolean isPlace(int lat, int lon) {
        return isFrom(lat, -POLE, POLE) && isFrom(lon, 0, ROUND - 1);
    }

    private static boolean isBox(int south, int north, int west, int east) {
        return isPlace(south, west) && isPlace(north, east) && south <= north;
    }

    private static boolean isInt(long n) {
        return n == (int) n;
    }

    private boolean areSheets(int level, int a, int b) {
        return grid.hasSheet(level, a) && grid.hasSheet(level, b);
    }

    private static long commonDivisor(long a, long b) {
        long big = a;
        long small = b;
        for (int i = 0; i < 200 && small != 0; i++) {
            long rest = big % small;
            big = small;
            small = rest;
        }
        return big;
    }

    /** All that keep() keeps: CUTS, THE STORE, the counts of texts. */
    private static final class Atlas {
        private final Grid grid = new Grid();
        private final Store store = new Store(grid);
        private int right = 0;
        private int faulty = 0;
        private int endedSoon = 0;
        private int noSuchNumber = 0;

        void countText(NameReader reader, boolean wasRight) {
            if (wasRight) {
                right++;
                return;
            }
            faulty++;
            if (reader.endedSoon) {
                endedSoon++;
            }
            if (reader.fault == NO_SUCH_NUMBER) {
                noSuchNumber++;
            }
        }

        void copyFrom(Atlas other) {
            grid.copyFrom(other.grid);
            store.copyFrom(other.store);
            right = other.right;
            faulty = other.faulty;
            endedSoon = other.endedSoon;
            noSuchNumber = other.noSuchNumber;
        }
    }

    /**
     * CUTS, and the rows and keys that follow from them. Cuts are 1 to 6, so no product of them is 0
     * and each may be divided by. A BAND's index counts from the north, from 0 on.
     */
    private static final class Grid {
        private final int[] rowCuts = {1, 2, 2, 2, 2};
        private final int[] columnCuts = {1, 2, 2, 2, 2};
        private final int[] bandRows = new int[DEEPEST + 1];
        private final int[] zoneColumns = new int[DEEPEST + 1];
        private final int[] rows = new int[DEEPEST + 1];
        private final int[] sheets = new int[DEEPEST + 1];

        Grid() {
            multiply();
        }

        private void multiply() {
            int high = 1;
            int wide = 1;
            for (int level = 0; level <= DEEPEST; level++) {
                high *= rowCuts[level];
                wide *= columnCuts[level];
                bandRows[level] = high;
                zoneColumns[level] = wide;
                rows[level] = BANDS * high + 2;
                sheets[level] = ZONES * high * wide + 2;
            }
        }

        long deepestSheetsIf(int level, int r, int c) {
            long many = ZONES;
            for (int i = 1; i <= DEEPEST; i++) {
                many *= i == level ? r * c : rowCuts[i] * columnCuts[i];
            }
            return many + 2;
        }

        void setCuts(int level, int r, int c) {
            rowCuts[level] = r;
            columnCuts[level] = c;
            multiply();
        }

        void copyFrom(Grid other) {
            System.arraycopy(other.rowCuts, 0, rowCuts, 0, rowCuts.length);
            System.arraycopy(other.columnCuts, 0, columnCuts, 0, columnCuts.length);
            multiply();
        }

        boolean hasSheet(int level, int key) {
            return isLevel(level) && key >= 0 && key < sheets[level];
        }

        boolean isCapRow(int level, int row) {
            return row <= 0 || row >= rows[level] - 1;
        }

        /** A CAP is stored as of LEVEL 0. */
        int storedLevel(int level, int key) {
            return key == 0 || key == sheets[level] - 1 ? 0 : level;
        }

        int rowLength(int level, int row) {
            if (row <= 0 || row >= rows[level] - 1) {
                return 1;
            }
            return BAND_ZONES[(row - 1) / bandRows[level]] * zoneColumns[level];
        }

        int rowStart(int level, int row) {
            if (row <= 0) {
                return 0;
            }
            if (row >= rows[level] - 1) {
                return sheets[level] - 1;
            }
            int band = (row - 1) / bandRows[level];
            int rowInBand = (row - 1) % bandRows[level];
            int zoneRows = ZONES_AHEAD[band] * bandRows[level] + rowInBand * BAND_ZONES[band];
            return 1 + zoneRows * zoneColumns[level];
        }

        int rowOfKey(int level, int key) {
            if (key <= 0) {
                return 0;
            }
            if (key >= sheets[level] - 1) {
                return rows[level] - 1;
            }
            int zoneSheets = bandRows[level] * zoneColumns[level];
            int band = bandOfZone((key - 1) / zoneSheets);
            int inBand = key - 1 - ZONES_AHEAD[band] * zoneSheets;
            return 1 + band * bandRows[level] + inBand / (BAND_ZONES[band] * zoneColumns[level]);
        }

        int rowOfLat(int level, int lat) {
            if (lat >= CAP_EDGE) {
                return 0;
            }
            if (lat < -CAP_EDGE) {
                return rows[level] - 1;
            }
            long fromEquator = Math.floorDiv((long) lat * bandRows[level], (long) BAND_HEIGHT);
            return NORTH_BANDS * bandRows[level] - (int) fromEquator;
        }

        int placeOfLon(int level, int row, int lon) {
            return (int) ((long) lon * rowLength(level, row) / ROUND);
        }

        int keyOf(int level, int lat, int lon) {
            int row = rowOfLat(level, lat);
            return rowStart(level, row) + placeOfLon(level, row, lon);
        }

        /** Rows of a deeper LEVEL in a row of a LEVEL. */
        int rowsIn(int level, int deeper) {
            return bandRows[deeper] / bandRows[level];
        }

        int columnsIn(int level, int deeper) {
            return zoneColumns[deeper] / zoneColumns[level];
        }

        int keyAbove(int level, int key, int to) {
            int row = rowOfKey(level, key);
            if (row == 0) {
                return 0;
            }
            if (row == rows[level] - 1) {
                return sheets[to] - 1;
            }
            int place = key - rowStart(level, row);
            int rowAbove = (row - 1) / rowsIn(to, level) + 1;
            return rowStart(to, rowAbove) + place / columnsIn(to, level);
        }

        /** The BAND of a ZONE, if the ZONES of all BANDS are counted from the north. */
        private static int bandOfZone(int zone) {
            int least = 0;
            int most = BANDS - 1;
            for (int i = 0; i < BANDS && least < most; i++) {
                int half = (least + most + 1) / 2;
                if (zone >= ZONES_AHEAD[half]) {
                    least = half;
                } else {
                    most = half - 1;
                }
            }
            return least;
        }
    }

    /** One SHEET of a LEVEL: where it lies, its edges and pieces, the SHEETS beside it. */
    private static final class Spot {
        private final Grid grid;
        private final int[] first = new int[4];
        private final int[] many = new int[4];
        private final int[] corner = new int[4];
        private int cornerCount = 0;
        private int level = 0;
        private int row = 0;
        private int start = 0;
        private int place = 0;
        private int length = 1;
        private boolean cap = true;

        Spot(Grid grid) {
            this.grid = grid;
        }

        void put(int ofLevel, int key) {
            level = ofLevel;
            row = grid.rowOfKey(level, key);
            start = grid.rowStart(level, row);
            length = grid.rowLength(level, row);
            place = key - start;
            cap = grid.isCapRow(level, row);
        }

        int band() {
            if (cap) {
                return row == 0 ? 100 : -100;
            }
            return NORTH_BANDS - 1 - (row - 1) / grid.bandRows[level];
        }

        int zone() {
            return cap ? 0 : place / grid.zoneColumns[level];
        }

        /** The number that its NAME has for a LEVEL. */
        int numberOf(int to) {
            if (cap) {
                return 0;
            }
            if (to == 0) {
                return zone() + 1;
            }
            int pieceRow = (row - 1) / grid.rowsIn(to, level) % grid.rowCuts[to];
            int pieceColumn = place / grid.columnsIn(to, level) % grid.columnCuts[to];
            return pieceRow * grid.columnCuts[to] + pieceColumn + 1;
        }

        long edgeTop(int edge) {
            if (edge >= 2) {
                return (long) ROUND * (edge == 2 ? place : place + 1);
            }
            if (cap) {
                int southEdge = row == 0 ? CAP_EDGE : -POLE;
                return edge == 0 ? southEdge : southEdge + POLE - CAP_EDGE;
            }
            long southRow = (long) NORTH_BANDS * grid.bandRows[level] - row;
            return BAND_HEIGHT * (edge == 0 ? southRow : southRow + 1);
        }

        long edgeBottom(int edge) {
            if (edge >= 2) {
                return length;
            }
            return cap ? 1 : grid.bandRows[level];
        }

        int middleLat() {
            if (cap) {
                return row == 0 ? POLE : -POLE;
            }
            return (int) Math.floorDiv(edgeTop(0) + edgeTop(1), 2 * edgeBottom(0));
        }

        int middleLon() {
            if (cap) {
                return 0;
            }
            return (int) Math.floorDiv(edgeTop(2) + edgeTop(3), 2 * edgeBottom(2));
        }

        int piecesAt(int to) {
            return cap ? 1 : grid.rowsIn(level, to) * grid.columnsIn(level, to);
        }

        int pieceAt(int to, int i) {
            if (cap) {
                return row == 0 ? 0 : grid.sheets[to] - 1;
            }
            int columns = grid.columnsIn(level, to);
            int pieceRow = (row - 1) * grid.rowsIn(level, to) + i / columns + 1;
            return grid.rowStart(to, pieceRow) + place * columns + i % columns;
        }

        void lookAround() {
            lookAcross(NORTH, row - 1);
            lookAlong(EAST, 1);
            lookAcross(SOUTH, row + 1);
            lookAlong(WEST, length - 1);
        }

        private void lookAcross(int side, int beside) {
            first[side] = 0;
            many[side] = 0;
            if (beside < 0 || beside >= grid.rows[level]) {
                return;
            }
            long there = grid.rowLength(level, beside);
            int from = (int) (place * there / length);
            int to = (int) (((place + 1) * there - 1) / length);
            first[side] = grid.rowStart(level, beside) + from;
            many[side] = to - from + 1;
        }

        private void lookAlong(int side, int by) {
            first[side] = start + (place + by) % length;
            many[side] = cap ? 0 : 1;
        }

        int allBeside() {
            return many[NORTH] + many[EAST] + many[SOUTH] + many[WEST];
        }

        /** The i-th of all NEIGHBOURS by KEYS: of the row ahead, of its own row, of the row behind. */
        int besideKey(int i) {
            if (i < many[NORTH]) {
                return first[NORTH] + i;
            }
            int behind = i - many[NORTH];
            if (behind >= many[EAST] + many[WEST]) {
                return first[SOUTH] + behind - many[EAST] - many[WEST];
            }
            if (behind == 0) {
                return Math.min(first[EAST], first[WEST]);
            }
            return Math.max(first[EAST], first[WEST]);
        }

        void lookAtCorners() {
            cornerCount = 0;
            if (!cap) {
                addCorners(row - 1);
                addCorners(row + 1);
            }
        }

        /** A corner that lies inside another SHEET's edge is no corner in common. */
        private void addCorners(int beside) {
            if (grid.isCapRow(level, beside)) {
                return;
            }
            int there = grid.rowLength(level, beside);
            int startThere = grid.rowStart(level, beside);
            long westEnd = (long) place * there;
            if (westEnd % length == 0) {
                addCorner(startThere + (int) (westEnd / length + there - 1) % there);
            }
            long eastEnd = westEnd + there;
            if (eastEnd % length == 0) {
                addCorner(startThere + (int) (eastEnd / length) % there);
            }
        }

        private void addCorner(int key) {
            int i = cornerCount;
            if (i >= corner.length) {
                return;
            }
            for (; i > 0 && corner[i - 1] > key; i--) {
                corner[i] = corner[i - 1];
            }
            corner[i] = key;
            cornerCount++;
        }
    }

    /** STEPS from one SHEET to all of its LEVEL. */
    private static final class Walk {
        private final Spot spot;
        private int[] steps = new int[0];
        private int[] reached = new int[0];
        private int many = 0;

        Walk(Grid grid) {
            spot = new Spot(grid);
        }

        void spread(int level, int key) {
            makeRoom(spot.grid.sheets[level]);
            reached[0] = key;
            steps[key] = 0;
            int known = 1;
            for (int i = 0; i < known && i < many; i++) {
                spot.put(level, reached[i]);
                spot.lookAround();
                known = spreadOn(steps[reached[i]] + 1, known);
            }
        }

        private void makeRoom(int sheets) {
            many = sheets;
            if (steps.length < sheets) {
                steps = new int[sheets];
                reached = new int[sheets];
            }
            for (int i = 0; i < sheets; i++) {
                steps[i] = NONE;
            }
        }

        private int spreadOn(int far, int known) {
            int end = known;
            int all = spot.allBeside();
            for (int i = 0; i < all; i++) {
                int key = spot.besideKey(i);
                if (steps[key] == NONE && end < many) {
                    steps[key] = far;
                    reached[end] = key;
                    end++;
                }
            }
            return end;
        }

        int stepsTo(int key) {
            return steps[key];
        }

        int within(int far) {
            int near = 0;
            for (int i = 0; i < many; i++) {
                if (steps[i] <= far) {
                    near++;
                }
            }
            return near;
        }

        int farthestKey() {
            int key = 0;
            for (int i = 1; i < many; i++) {
                if (steps[i] > steps[key]) {
                    key = i;
                }
            }
            return key;
        }

        /** The i-th SHEET on the way from a SHEET to the one that the walk was spread from. */
        int onTheWay(int level, int from, int i) {
            int key = from;
            for (int step = 0; step < i && step < many; step++) {
                spot.put(level, key);
                spot.lookAround();
                key = nearer(key);
            }
            return key;
        }

        private int nearer(int key) {
            int all = spot.allBeside();
            for (int i = 0; i < all; i++) {
                int next = spot.besideKey(i);
                if (steps[next] == steps[key] - 1) {
                    return next;
                }
            }
            return key;
        }
    }

    /** A BOX, and its SHEETS of each LEVEL. */
    private static final class Box {
        private final Grid grid;
        private int south = 0;
        private int north = 0;
        private int west = 0;
        private int east = 0;

        Box(Grid grid) {
            this.grid = grid;
        }

        void set(int fromLat, int toLat, int fromLon, int toLon) {
            south = fromLat;
            north = toLat;
            west = fromLon;
            east = toLon;
        }

        int topRow(int level) {
            return grid.rowOfLat(level, north);
        }

        int bottomRow(int level) {
            return grid.rowOfLat(level, south);
        }

        int inRow(int level, int row) {
            int from = grid.placeOfLon(level, row, west);
            int to = grid.placeOfLon(level, row, east);
            if (west <= east) {
                return to - from + 1;
            }
            int length = grid.rowLength(level, row);
            // The SHEET that has both ends in it is there once.
            return Math.min(length, length - from + to + 1);
        }

        int keyFromWest(int level, int row, int i) {
            int from = grid.placeOfLon(level, row, west);
            return grid.rowStart(level, row) + (from + i) % grid.rowLength(level, row);
        }

        /** Rows of one belt (0 and 45 the CAPS, a BAND each between) have as many SHEETS in the BOX. */
        private int beltTop(int level, int belt) {
            int first = belt == 0 ? 0 : (belt - 1) * grid.bandRows[level] + 1;
            return Math.max(first, topRow(level));
        }

        private int beltBottom(int level, int belt) {
            int last = belt > BANDS ? grid.rows[level] - 1 : belt * grid.bandRows[level];
            return Math.min(last, bottomRow(level));
        }

        int sheetsAt(int level) {
            int many = 0;
            for (int belt = 0; belt <= BANDS + 1; belt++) {
                int top = beltTop(level, belt);
                int bottom = beltBottom(level, belt);
                if (top <= bottom) {
                    many += (bottom - top + 1) * inRow(level, top);
                }
            }
            return many;
        }

        int sheetAt(int level, int i) {
            int ahead = 0;
            for (int belt = 0; belt <= BANDS + 1; belt++) {
                int top = beltTop(level, belt);
                int bottom = beltBottom(level, belt);
                if (top > bottom) {
                    continue;
                }
                int inRow = Math.max(1, inRow(level, top));
                int inBelt = (bottom - top + 1) * inRow;
                if (i - ahead < inBelt) {
                    return keyFromWest(level, top + (i - ahead) / inRow, (i - ahead) % inRow);
                }
                ahead += inBelt;
            }
            return NONE;
        }

        int coverAt(int level, int deepest) {
            int many = 0;
            int bottom = bottomRow(level);
            for (int row = topRow(level); row <= bottom; row++) {
                int inRow = inRow(level, row);
                for (int i = 0; i < inRow; i++) {
                    if (isCover(level, row, placeByKeys(level, row, i), deepest)) {
                        many++;
                    }
                }
            }
            return many;
        }

        int coverSheet(int level, int deepest, int wanted) {
            int ahead = 0;
            int bottom = bottomRow(level);
            for (int row = topRow(level); row <= bottom; row++) {
                int inRow = inRow(level, row);
                for (int i = 0; i < inRow; i++) {
                    int place = placeByKeys(level, row, i);
                    if (!isCover(level, row, place, deepest)) {
                        continue;
                    }
                    if (ahead == wanted) {
                        return grid.rowStart(level, row) + place;
                    }
                    ahead++;
                }
            }
            return NONE;
        }

        private int placeByKeys(int level, int row, int i) {
            int length = grid.rowLength(level, row);
            int inRow = inRow(level, row);
            if (inRow == length) {
                return i;
            }
            int from = grid.placeOfLon(level, row, west);
            int behindLonZero = Math.max(0, from + inRow - length);
            return i < behindLonZero ? i : from + i - behindLonZero;
        }

        /** Whether a SHEET is of the COVER: whole in the BOX, but not so the one that it is cut from. */
        private boolean isCover(int level, int row, int place, int deepest) {
            if (grid.isCapRow(level, row)) {
                return level == 0;
            }
            if (!isWhole(level, row, place, deepest)) {
                return false;
            }
            if (level == 0) {
                return true;
            }
            int rowAbove = (row - 1) / grid.rowCuts[level] + 1;
            return !isWhole(level - 1, rowAbove, place / grid.columnCuts[level], deepest);
        }

        /** Whether all pieces of the deepest LEVEL of a SHEET, that is no CAP, are in the BOX. */
        private boolean isWhole(int level, int row, int place, int deepest) {
            int rows = grid.rowsIn(level, deepest);
            int top = (row - 1) * rows + 1;
            if (top < topRow(deepest) || top + rows - 1 > bottomRow(deepest)) {
                return false;
            }
            int inRow = inRow(deepest, top);
            int length = grid.rowLength(deepest, top);
            if (inRow == length) {
                return true;
            }
            int columns = grid.columnsIn(level, deepest);
            int from = grid.placeOfLon(deepest, top, west);
            return Math.floorMod(place * columns - from, length) + columns <= inRow;
        }
    }

    /** The bytes that feed() has brought. */
    private static final class Tape {
        private final int[] bytes = new int[MOST_TAPE];
        private int length = 0;

        void add(int four) {
            for (int shift = 24; shift >= 0 && length < bytes.length; shift -= 8) {
                bytes[length] = (four >> shift) & 255;
                length++;
            }
        }

        boolean isWord(String word, int to) {
            if (word.length() != to || to > length) {
                return false;
            }
            for (int i = 0; i < to; i++) {
                if (bytes[i] != word.charAt(i)) {
                    return false;
                }
            }
            return true;
        }

        /** The first blank from a place on; the end, if there is none. */
        int blankFrom(int from, int end) {
            for (int i = from; i < end && i < length; i++) {
                if (bytes[i] == BLANK) {
                    return i;
                }
            }
            return end;
        }
    }

    /** A NAME as bytes. */
    private static final class NameText {
        private final int[] bytes = new int[MOST_NAME];
        private int length = 0;

        void write(Spot spot) {
            length = 0;
            if (spot.cap) {
                add(spot.row == 0 ? 'N' : 'S');
                add('Z');
                return;
            }
            int band = spot.band();
            add(band >= 0 ? 'N' : 'S');
            add('A' + (band >= 0 ? band : -1 - band));
            addNumber(spot.numberOf(0));
            for (int level = 1; level <= spot.level; level++) {
                add('-');
                addNumber(spot.numberOf(level));
            }
        }

        private void addNumber(int number) {
            if (number >= 10) {
                add('0' + number / 10);
            }
            add('0' + number % 10);
        }

        private void add(int sign) {
            if (length < bytes.length) {
                bytes[length] = sign;
                length++;
            }
        }

        int against(NameText other) {
            int both = Math.min(length, other.length);
            for (int i = 0; i < both; i++) {
                if (bytes[i] != other.bytes[i]) {
                    return Integer.compare(bytes[i], other.bytes[i]);
                }
            }
            return Integer.compare(length, other.length);
        }
    }

    /** Reads a NAME from the tape: its LEVEL and KEY, or its FAULT. */
    private static final class NameReader {
        private final Grid grid;
        private final Tape tape;
        private int next = 0;
        private int end = 0;
        private int level = 0;
        private int key = 0;
        private int fault = 0;
        private int faultPlace = 0;
        private boolean endedSoon = false;

        NameReader(Grid grid, Tape tape) {
            this.grid = grid;
            this.tape = tape;
        }

        boolean read(int from, int to) {
            next = from;
            end = to;
            fault = 0;
            endedSoon = false;
            int half = here();
            if (half != 'N' && half != 'S') {
                return failHere();
            }
            next++;
            int letter = here();
            if (letter == 'Z') {
                return readCap(half == 'N');
            }
            if (letter < 'A' || letter > 'V') {
                return failHere();
            }
            next++;
            int fromEquator = letter - 'A';
            return readNumbers(half == 'N' ? NORTH_BANDS - 1 - fromEquator : NORTH_BANDS + fromEquator);
        }

        private boolean readCap(boolean isNorth) {
            next++;
            if (next < end) {
                return failHere();
            }
            level = 0;
            key = isNorth ? 0 : grid.sheets[0] - 1;
            return true;
        }

        private boolean readNumbers(int band) {
            int number = readNumber(BAND_ZONES[band]);
            int row = band;
            int place = number - 1;
            level = 0;
            while (fault == 0 && next < end && level < DEEPEST && here() == '-') {
                next++;
                level++;
                int columns = grid.columnCuts[level];
                number = readNumber(grid.rowCuts[level] * columns);
                row = row * grid.rowCuts[level] + (number - 1) / columns;
                place = place * columns + (number - 1) % columns;
            }
            if (fault == 0 && next < end) {
                return here() == '-' ? fail(FIFTH_PIECE, next) : failHere();
            }
            key = grid.rowStart(level, row + 1) + place;
            return fault == 0;
        }

        /** A number of 1 or 2 digits from 1 to the most; 1 if there is a FAULT. */
        private int readNumber(int most) {
            int from = next;
            int number = 0;
            while (isDigit(here()) && next < from + 2) {
                number = number * 10 + here() - '0';
                next++;
            }
            if (next == from || isDigit(here())) {
                failHere();
                return 1;
            }
            if (number < 1 || number > most) {
                fail(NO_SUCH_NUMBER, from);
                return 1;
            }
            return number;
        }

        private static boolean isDigit(int sign) {
            return sign >= '0' && sign <= '9';
        }

        private int here() {
            return next >= 0 && next < end && next < tape.length ? tape.bytes[next] : NONE;
        }

        private boolean failHere() {
            fault = CAN_NOT_STAND;
            faultPlace = next;
            endedSoon = next >= end;
            return false;
        }

        boolean fail(int number, int place) {
            fault = number;
            faultPlace = place;
            endedSoon = false;
            return false;
        }

        boolean failWithoutBlank(int place) {
            fail(CAN_NOT_STAND, place);
            endedSoon = true;
            return false;
        }

        int told() {
            return -1000 * fault - faultPlace;
        }
    }

    /** Reads a QUESTION from the tape; a FAULT of it is the reader's. */
    private static final class Question {
        private final NameReader reader;
        private final Tape tape;
        private int word = NONE;
        private int level = 0;
        private int key = 0;
        private int otherLevel = 0;
        private int otherKey = 0;

        Question(NameReader reader, Tape tape) {
            this.reader = reader;
            this.tape = tape;
        }

        boolean read(int end) {
            int blank = tape.blankFrom(0, end);
            if (blank == end) {
                return reader.failWithoutBlank(end);
            }
            word = wordTo(blank);
            if (word == NONE) {
                return reader.fail(CAN_NOT_STAND, 0);
            }
            boolean hasTwo = word == STEPS || word == BETWEEN;
            int nameEnd = hasTwo ? tape.blankFrom(blank + 1, end) : end;
            if (!reader.read(blank + 1, nameEnd)) {
                return false;
            }
            level = reader.level;
            key = reader.key;
            return !hasTwo || readOther(nameEnd + 1, end);
        }

        private boolean readOther(int from, int end) {
            if (from > end) {
                return reader.failWithoutBlank(end);
            }
            if (!reader.read(from, end)) {
                return false;
            }
            otherLevel = reader.level;
            otherKey = reader.key;
            return true;
        }

        private int wordTo(int blank) {
            if (tape.isWord("north", blank)) {
                return NORTH;
            }
            if (tape.isWord("east", blank)) {
                return EAST;
            }
            if (tape.isWord("south", blank)) {
                return SOUTH;
            }
            if (tape.isWord("west", blank)) {
                return WEST;
            }
            if (tape.isWord("above", blank)) {
                return ABOVE;
            }
            if (tape.isWord("steps", blank)) {
                return STEPS;
            }
            return tape.isWord("between", blank) ? BETWEEN : NONE;
        }
    }

    /** THE STORE: pieces by LEVELS, then KEYS. */
    private static final class Store {
        private final Grid grid;
        private final int[] levels = new int[MOST_PIECES];
        private final int[] keys = new int[MOST_PIECES];
        private final int[] years = new int[MOST_PIECES];
        private final int[] keysThere = new int[DEEPEST + 1];
        private int size = 0;
        private int shownBy = 0;
        private int deepestShown = 0;
        private int latestShown = 0;

        Store(Grid grid) {
            this.grid = grid;
        }

        int find(int level, int key) {
            for (int i = 0; i < size; i++) {
                if (levels[i] == level && keys[i] == key) {
                    return i;
                }
            }
            return NONE;
        }

        /** Whether the piece is there then: not if it were one too many. */
        boolean put(int level, int key, int year) {
            int there = find(level, key);
            if (there != NONE) {
                years[there] = year;
                return true;
            }
            if (size >= MOST_PIECES) {
                return false;
            }
            int i = size;
            for (; i > 0 && isBehind(i - 1, level, key); i--) {
                move(i - 1, i);
            }
            levels[i] = level;
            keys[i] = key;
            years[i] = year;
            size++;
            return true;
        }

        private boolean isBehind(int i, int level, int key) {
            return levels[i] > level || levels[i] == level && keys[i] > key;
        }

        private void move(int from, int to) {
            levels[to] = levels[from];
            keys[to] = keys[from];
            years[to] = years[from];
        }

        void remove(int gone) {
            for (int i = gone + 1; i < size; i++) {
                move(i, i - 1);
            }
            size--;
        }

        /** Looks by which pieces a PLACE is SHOWN. */
        void lookAt(int lat, int lon) {
            for (int level = 0; level <= DEEPEST; level++) {
                keysThere[level] = grid.keyOf(level, lat, lon);
            }
            shownBy = 0;
            deepestShown = 0;
            latestShown = 0;
            for (int i = 0; i < size; i++) {
                if (keysThere[levels[i]] == keys[i]) {
                    shownBy++;
                    deepestShown = levels[i];
                    latestShown = Math.max(latestShown, years[i]);
                }
            }
        }

        /** Whether a piece's SHEET lies in one of a LEVEL above of the same YEAR or a later one. */
        boolean isNeedless(int i) {
            for (int above = 0; above < i; above++) {
                if (levels[above] < levels[i] && years[above] >= years[i]
                        && grid.keyAbove(levels[i], keys[i], levels[above]) == keys[above]) {
                    return true;
                }
            }
            return false;
        }

        void copyFrom(Store other) {
            System.arraycopy(other.levels, 0, levels, 0, levels.length);
            System.arraycopy(other.keys, 0, keys, 0, keys.length);
            System.arraycopy(other.years, 0, years, 0, years.length);
            size = other.size;
        }
    }
}
