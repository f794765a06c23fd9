import java.util.ArrayDeque;
import java.util.ArrayList;
import java.util.Arrays;
import java.util.Collections;
import java.util.Comparator;
import java.util.HashSet;
import java.util.List;
import java.util.Set;
import java.util.TreeSet;
import java.util.regex.Matcher;
import java.util.regex.Pattern;

/**
 * A second, slow SheetNames for the tests. It shares no way of counting with the program: it cuts
 * the world into rectangles, keeps lists of them and looks through the lists.
 */
final class WorldModel {
    /** Each of 1 to 6 divides 60, so four cuts of a second's 60 to the 4th are whole. */
    static final long UNIT = 60L * 60 * 60 * 60;
    static final long ROUND = 1296000L * UNIT;

    static final class Rect {
        int level;
        long south;
        long north;
        long west;
        long east;
        boolean cap;
        boolean northern;
        int band;
        int zone;
        int number;
        Rect parent;
        List<Rect> parts = new ArrayList<>(4);
        int key;
        int row;
        int place;

        String name() {
            if (cap) {
                return northern ? "NZ" : "SZ";
            }
            if (level == 0) {
                return (band >= 0 ? "N" + (char) ('A' + band) : "S" + (char) ('A' - 1 - band)) + (zone + 1);
            }
            return parent.name() + "-" + number;
        }
    }

    static final class Piece {
        final int level;
        final int key;
        int year;

        Piece(int level, int key, int year) {
            this.level = level;
            this.key = key;
            this.year = year;
        }
    }

    /** The lists of one set of CUTS. */
    static final class World {
        final int[] r;
        final int[] c;
        final List<List<Rect>> levels = new ArrayList<>();
        final List<List<List<Rect>>> rows = new ArrayList<>();

        World(int[] r, int[] c) {
            this.r = r.clone();
            this.c = c.clone();
        }

        List<Rect> level(int level) {
            while (levels.size() <= level) {
                addLevel();
            }
            return levels.get(level);
        }

        List<List<Rect>> rows(int level) {
            level(level);
            return rows.get(level);
        }

        private void addLevel() {
            int level = levels.size();
            List<Rect> all = new ArrayList<>();
            if (level == 0) {
                addFirst(all);
            } else {
                for (Rect up : levels.get(level - 1)) {
                    cutUp(up, level, all);
                }
            }
            all.sort(Comparator.comparingLong((Rect x) -> -x.north).thenComparingLong(x -> x.west));
            List<List<Rect>> lines = new ArrayList<>();
            for (int i = 0; i < all.size(); i++) {
                Rect x = all.get(i);
                x.key = i;
                if (i == 0 || all.get(i - 1).north != x.north) {
                    lines.add(new ArrayList<>());
                }
                x.row = lines.size() - 1;
                x.place = lines.get(x.row).size();
                lines.get(x.row).add(x);
            }
            levels.add(all);
            rows.add(lines);
        }

        private static void addFirst(List<Rect> all) {
            for (int band = -22; band <= 21; band++) {
                int far = band >= 0 ? band : -1 - band;
                int zones = far <= 14 ? 60 : far <= 18 ? 30 : 15;
                for (int zone = 0; zone < zones; zone++) {
                    Rect x = new Rect();
                    x.band = band;
                    x.zone = zone;
                    x.number = zone + 1;
                    x.south = band * 14400L * UNIT;
                    x.north = (band + 1) * 14400L * UNIT;
                    x.west = ROUND / zones * zone;
                    x.east = ROUND / zones * (zone + 1);
                    all.add(x);
                }
            }
            for (int end = -1; end <= 1; end += 2) {
                Rect x = new Rect();
                x.cap = true;
                x.northern = end > 0;
                x.band = 100 * end;
                x.south = (end > 0 ? 316800L : -324000L) * UNIT;
                x.north = (end > 0 ? 324000L : -316800L) * UNIT;
                x.west = 0;
                x.east = ROUND;
                all.add(x);
            }
        }

        private void cutUp(Rect up, int level, List<Rect> all) {
            int high = up.cap ? 1 : r[level];
            int wide = up.cap ? 1 : c[level];
            for (int i = 0; i < high * wide; i++) {
                Rect x = new Rect();
                x.level = level;
                x.cap = up.cap;
                x.northern = up.northern;
                x.band = up.band;
                x.zone = up.zone;
                x.number = up.cap ? 0 : i + 1;
                x.parent = up;
                long height = (up.north - up.south) / high;
                long width = (up.east - up.west) / wide;
                x.north = up.north - height * (i / wide);
                x.south = x.north - height;
                x.west = up.west + width * (i % wide);
                x.east = x.west + width;
                up.parts.add(x);
                all.add(x);
            }
        }
    }

    private static World first = new World(new int[] {1, 2, 2, 2, 2}, new int[] {1, 2, 2, 2, 2});

    World world = first;
    final List<Integer> tape = new ArrayList<>();
    List<Piece> store = new ArrayList<>();
    int[] texts = new int[4];
    final List<Object[]> kept = new ArrayList<>();

    // ---- what is there

    boolean isLevel(int level) {
        return 0 <= level && level <= 4;
    }

    long sheetsOf(int level) {
        long many = 2130;
        for (int i = 1; i <= level; i++) {
            many *= world.r[i] * world.c[i];
        }
        return many + 2;
    }

    boolean isSheet(int level, int key) {
        return isLevel(level) && key >= 0 && key < sheetsOf(level);
    }

    Rect rect(int level, int key) {
        return world.level(level).get(key);
    }

    boolean isPlace(int lat, int lon) {
        return Math.abs((long) lat) <= 324000 && lon >= 0 && lon <= 1295999;
    }

    boolean holds(Rect x, long lat, long lon) {
        boolean high = lat < x.north || x.cap && x.northern && lat == x.north;
        return lat >= x.south && high && lon >= x.west && lon < x.east;
    }

    Rect rectAt(int lat, int lon, int level) {
        world.level(level);
        List<Rect> among = world.level(0);
        Rect found = null;
        for (int i = 0; i <= level; i++) {
            Rect next = null;
            for (Rect x : among) {
                if (holds(x, lat * UNIT, lon * UNIT)) {
                    next = x;
                    break;
                }
            }
            found = next;
            among = next.parts;
        }
        return found;
    }

    static int pick(List<Rect> list, int i, int beyond) {
        return i == -1 ? list.size() : i < list.size() ? list.get(i).key : beyond;
    }

    // ---- the calls

    int feed(int a, int b, int c, int d, int e) {
        if (tape.size() + 20 > 200) {
            return -1;
        }
        for (int x : new int[] {a, b, c, d, e}) {
            for (int i = 3; i >= 0; i--) {
                tape.add((x >>> (8 * i)) & 255);
            }
        }
        return tape.size();
    }

    int cut(int level, int r, int c) {
        if (level < 1 || level > 4 || r < 1 || r > 6 || c < 1 || c > 6) {
            return -1;
        }
        if (!store.isEmpty()) {
            return -2;
        }
        World next = new World(world.r, world.c);
        next.r[level] = r;
        next.c[level] = c;
        World before = world;
        world = next;
        if (sheetsOf(4) > 20000000) {
            world = before;
            return -3;
        }
        if (Arrays.equals(next.r, first.r) && Arrays.equals(next.c, first.c)) {
            world = first;
        }
        return (int) sheetsOf(level);
    }

    int level(int level, int what) {
        if (!isLevel(level) || what < 0 || what > 5) {
            return -1;
        }
        int high = 1;
        int wide = 1;
        for (int i = 1; i <= level; i++) {
            high *= world.r[i];
            wide *= world.c[i];
        }
        return new int[] {(int) sheetsOf(level), 2 + 44 * high, world.r[level], world.c[level], high, wide}[what];
    }

    int key(int lat, int lon, int level) {
        return isPlace(lat, lon) && isLevel(level) ? rectAt(lat, lon, level).key : -1;
    }

    int name(int level, int key, int i) {
        if (!isSheet(level, key) || i < -1) {
            return -1;
        }
        String name = rect(level, key).name();
        return i == -1 ? name.length() : i < name.length() ? name.charAt(i) : -2;
    }

    /** What a text is: its FAULT (0: none), the place of that, whether the text ended too soon, its SHEET. */
    static final class Read {
        int fault;
        int place;
        boolean ended;
        Rect sheet;
    }

    private static final Pattern FORM = Pattern.compile("[NS](?:Z|[A-V][0-9]{1,2}(?:-[0-9]{1,2}){0,4})");

    private static boolean begins(String start) {
        Matcher m = FORM.matcher(start);
        return m.matches() || m.hitEnd();
    }

    Read readName(String text) {
        Read read = new Read();
        int good = text.length();
        while (!begins(text.substring(0, good))) {
            good--;
        }
        boolean whole = good == text.length() && FORM.matcher(text).matches();
        if (!whole) {
            read.place = good;
            read.ended = good == text.length();
            boolean fifth = !read.ended && text.charAt(good) == '-' && FORM.matcher(text.substring(0, good)).matches()
                    && text.chars().limit(good).filter(x -> x == '-').count() == 4;
            read.fault = fifth ? 3 : 1;
        }
        Matcher numbers = Pattern.compile("[0-9]+").matcher(text);
        int at = 0;
        while (numbers.find() && numbers.start() < good && numbers.end() <= good) {
            int number = Integer.parseInt(numbers.group());
            int most = at == 0 ? zonesOf(text.substring(0, 2)) : world.r[at] * world.c[at];
            if (number < 1 || number > most) {
                read.fault = 2;
                read.place = numbers.start();
                read.ended = false;
                return read;
            }
            at++;
        }
        if (read.fault == 0) {
            read.sheet = find(text);
        }
        return read;
    }

    private int zonesOf(String head) {
        int many = 0;
        for (Rect x : world.level(0)) {
            many += x.name().startsWith(head) ? 1 : 0;
        }
        return many;
    }

    private Rect find(String text) {
        String[] parts = text.split("-");
        String head = parts[0].endsWith("Z") ? parts[0]
                : parts[0].substring(0, 2) + Integer.parseInt(parts[0].substring(2));
        world.level(parts.length - 1);
        Rect found = null;
        for (Rect x : world.level(0)) {
            if (x.name().equals(head)) {
                found = x;
            }
        }
        for (int i = 1; i < parts.length; i++) {
            found = found.parts.get(Integer.parseInt(parts[i]) - 1);
        }
        return found;
    }

    private String takeTape(int n) {
        StringBuilder out = new StringBuilder();
        for (int i = 0; i < n; i++) {
            out.append((char) (int) tape.get(i));
        }
        tape.clear();
        return out.toString();
    }

    private void countText(Read read) {
        texts[read.fault == 0 ? 0 : 1]++;
        texts[2] += read.ended ? 1 : 0;
        texts[3] += read.fault == 2 ? 1 : 0;
    }

    int named(int n, int what) {
        if (n < 1 || n > 40 || what < 0 || what > 1 || tape.size() < n) {
            return -1;
        }
        Read read = readName(takeTape(n));
        countText(read);
        if (read.fault > 0) {
            return -1000 * read.fault - read.place;
        }
        return what == 0 ? read.sheet.level : read.sheet.key;
    }

    long edge(int level, int key, int what) {
        if (!isSheet(level, key) || what < 0 || what > 7) {
            return Long.MIN_VALUE;
        }
        Rect x = rect(level, key);
        java.math.BigInteger top = java.math.BigInteger.valueOf(new long[] {x.south, x.north, x.west, x.east}[what / 2]);
        java.math.BigInteger bottom = java.math.BigInteger.valueOf(UNIT);
        java.math.BigInteger both = top.gcd(bottom);
        return (what % 2 == 0 ? top : bottom).divide(both).longValueExact();
    }

    int middle(int level, int key, int what) {
        if (!isSheet(level, key) || what < 0 || what > 1) {
            return -1000000;
        }
        Rect x = rect(level, key);
        if (x.cap) {
            return what == 1 ? 0 : x.northern ? 324000 : -324000;
        }
        long twice = what == 0 ? x.south + x.north : x.west + x.east;
        return (int) Math.floorDiv(twice, 2 * UNIT);
    }

    int at(int level, int key, int what) {
        if (!isSheet(level, key) || what < 0 || what > 5) {
            return -1000000;
        }
        Rect x = rect(level, key);
        return new int[] {x.row, x.place, world.rows(level).get(x.row).size(), x.band, x.zone, x.number}[what];
    }

    int keyAt(int level, int row, int place) {
        if (!isLevel(level) || row < 0 || row >= world.rows(level).size()) {
            return -1;
        }
        List<Rect> line = world.rows(level).get(row);
        return place < 0 || place >= line.size() ? -1 : line.get(place).key;
    }

    Rect up(Rect x, int to) {
        Rect up = x;
        while (up.level > to) {
            up = up.parent;
        }
        return up;
    }

    int parent(int level, int key, int to) {
        return isSheet(level, key) && to >= 0 && to <= level ? up(rect(level, key), to).key : -1;
    }

    int child(int level, int key, int to, int i) {
        if (!isSheet(level, key) || to < level || to > 4 || i < -1) {
            return -1;
        }
        world.level(to);
        List<Rect> in = new ArrayList<>(List.of(rect(level, key)));
        for (int down = level; down < to; down++) {
            List<Rect> next = new ArrayList<>();
            for (Rect x : in) {
                next.addAll(x.parts);
            }
            in = next;
        }
        in.sort(Comparator.comparingInt(x -> x.key));
        return pick(in, i, -2);
    }

    int common(int lat, int lon, int lat2, int lon2) {
        if (!isPlace(lat, lon) || !isPlace(lat2, lon2)) {
            return -1;
        }
        int level = -2;
        for (int i = 0; i <= 4; i++) {
            level = rectAt(lat, lon, i) == rectAt(lat2, lon2, i) ? i : level;
        }
        return level;
    }

    private static boolean overlap(Rect a, Rect b) {
        return Math.max(a.west, b.west) < Math.min(a.east, b.east);
    }

    private static boolean meet(long a, long b) {
        return a % ROUND == b % ROUND;
    }

    /** NEIGHBOURS to a side; only rows beside it are looked through. */
    List<Rect> beside(Rect x, int side) {
        List<Rect> out = new ArrayList<>();
        for (Rect other : nearRows(x)) {
            boolean is;
            switch (side) {
                case 0: is = other.south == x.north && overlap(x, other); break;
                case 1: is = !x.cap && other != x && other.south == x.south && meet(x.east, other.west); break;
                case 2: is = other.north == x.south && overlap(x, other); break;
                default: is = !x.cap && other != x && other.south == x.south && meet(x.west, other.east); break;
            }
            if (is) {
                out.add(other);
            }
        }
        return out;
    }

    private List<Rect> nearRows(Rect x) {
        List<List<Rect>> rows = world.rows(x.level);
        List<Rect> near = new ArrayList<>();
        for (int row = Math.max(0, x.row - 1); row <= Math.min(rows.size() - 1, x.row + 1); row++) {
            near.addAll(rows.get(row));
        }
        return near;
    }

    int neighbour(int level, int key, int side, int i) {
        if (!isSheet(level, key) || side < 0 || side > 3 || i < -1) {
            return -1;
        }
        return pick(beside(rect(level, key), side), i, -2);
    }

    List<Rect> all(Rect x) {
        TreeSet<Rect> out = new TreeSet<>(Comparator.comparingInt((Rect y) -> y.key));
        for (int side = 0; side < 4; side++) {
            out.addAll(beside(x, side));
        }
        return new ArrayList<>(out);
    }

    int around(int level, int key, int i) {
        return !isSheet(level, key) || i < -1 ? -1 : pick(all(rect(level, key)), i, -2);
    }

    int side(int level, int a, int b) {
        if (!isSheet(level, a) || !isSheet(level, b) || a == b) {
            return -1;
        }
        for (int side = 0; side < 4; side++) {
            if (beside(rect(level, a), side).contains(rect(level, b))) {
                return side;
            }
        }
        return -2;
    }

    int[] stepsFrom(int level, int key) {
        int[] far = new int[world.level(level).size()];
        Arrays.fill(far, Integer.MAX_VALUE);
        far[key] = 0;
        ArrayDeque<Rect> open = new ArrayDeque<>(List.of(rect(level, key)));
        while (!open.isEmpty()) {
            Rect x = open.poll();
            for (Rect y : all(x)) {
                if (far[y.key] == Integer.MAX_VALUE) {
                    far[y.key] = far[x.key] + 1;
                    open.add(y);
                }
            }
        }
        return far;
    }

    int steps(int level, int a, int b) {
        if (!isSheet(level, a) || !isSheet(level, b)) {
            return -1;
        }
        return sheetsOf(level) > 20000 ? -3 : stepsFrom(level, a)[b];
    }

    int way(int level, int a, int b, int i) {
        if (!isSheet(level, a) || !isSheet(level, b) || i < 0) {
            return -1;
        }
        if (sheetsOf(level) > 20000) {
            return -3;
        }
        int[] far = stepsFrom(level, b);
        List<Rect> way = new ArrayList<>(List.of(rect(level, a)));
        while (far[way.get(way.size() - 1).key] > 0) {
            Rect last = way.get(way.size() - 1);
            for (Rect y : all(last)) {
                if (far[y.key] < far[last.key]) {
                    way.add(y);
                    break;
                }
            }
        }
        return pick(way, i, -2);
    }

    int reach(int level, int key, int d) {
        if (!isSheet(level, key) || d < 0) {
            return -1;
        }
        if (sheetsOf(level) > 20000) {
            return -3;
        }
        return (int) Arrays.stream(stepsFrom(level, key)).filter(x -> x <= d).count();
    }

    int farthest(int level, int key, int what) {
        if (!isSheet(level, key) || what < 0 || what > 1) {
            return -1;
        }
        if (sheetsOf(level) > 20000) {
            return -3;
        }
        int[] far = stepsFrom(level, key);
        int most = Arrays.stream(far).max().getAsInt();
        int at = 0;
        while (far[at] != most) {
            at++;
        }
        return what == 0 ? most : at;
    }

    int corners(int level, int key, int i) {
        if (!isSheet(level, key) || i < -1) {
            return -1;
        }
        Rect x = rect(level, key);
        List<Rect> out = new ArrayList<>();
        for (Rect y : nearRows(x)) {
            boolean stacked = y.south == x.north || y.north == x.south;
            boolean cornered = meet(x.west, y.east) || meet(x.east, y.west);
            if (!x.cap && !y.cap && stacked && cornered && !overlap(x, y)) {
                out.add(y);
            }
        }
        return pick(out, i, -2);
    }

    int jog(int level, int key, int side) {
        if (!isSheet(level, key) || side != 0 && side != 2) {
            return -1;
        }
        List<List<Rect>> rows = world.rows(level);
        int row = rect(level, key).row;
        int other = row + side - 1;
        return other >= 0 && other < rows.size() && rows.get(other).size() != rows.get(row).size() ? 1 : 0;
    }

    private static boolean holdsWhole(long from, long to, long least, long most) {
        long first = Math.max(least, -Math.floorDiv(-from, UNIT));
        long last = Math.min(most, -Math.floorDiv(-to, UNIT) - 1);
        return first <= last;
    }

    boolean isBox(int a, int b, int w, int e) {
        return isPlace(a, w) && isPlace(b, e) && a <= b;
    }

    List<Rect> inBox(int a, int b, int w, int e, int level) {
        List<Rect> out = new ArrayList<>();
        for (List<Rect> row : world.rows(level)) {
            Rect x = row.get(0);
            boolean pole = x.cap && x.northern && b == 324000;
            if (!pole && !holdsWhole(x.south, x.north, a, b)) {
                continue;
            }
            int from = 0;
            while (!holds(row.get(from), x.south, w * UNIT)) {
                from++;
            }
            for (int i = 0; i < row.size(); i++) {
                Rect y = row.get((from + i) % row.size());
                boolean in = w <= e ? holdsWhole(y.west, y.east, w, e)
                        : holdsWhole(y.west, y.east, w, 1295999) || holdsWhole(y.west, y.east, 0, e);
                if (in) {
                    out.add(y);
                }
            }
        }
        return out;
    }

    int box(int a, int b, int w, int e, int level, int i) {
        return !isBox(a, b, w, e) || !isLevel(level) || i < -1 ? -1 : pick(inBox(a, b, w, e, level), i, -2);
    }

    private boolean coverBy(Rect x, int level, Set<Rect> needed, List<Rect> out) {
        if (x.level == level) {
            if (needed.contains(x)) {
                out.add(x);
                return true;
            }
            return false;
        }
        List<Rect> parts = new ArrayList<>();
        boolean every = true;
        for (Rect y : x.parts) {
            every &= coverBy(y, level, needed, parts);
        }
        if (every) {
            out.add(x);
        } else {
            out.addAll(parts);
        }
        return every;
    }

    int cover(int a, int b, int w, int e, int level, int i) {
        if (!isBox(a, b, w, e) || !isLevel(level) || i < -1) {
            return -1;
        }
        List<Rect> in = inBox(a, b, w, e, level);
        if (in.size() > 4000) {
            return -2;
        }
        Set<Rect> needed = new HashSet<>(in);
        Set<Rect> roots = new HashSet<>();
        for (Rect x : in) {
            roots.add(up(x, 0));
        }
        List<Rect> out = new ArrayList<>();
        for (Rect x : roots) {
            coverBy(x, level, needed, out);
        }
        out.sort(Comparator.comparingInt((Rect x) -> x.level).thenComparingInt(x -> x.key));
        if (i == -1) {
            return out.size();
        }
        return i < out.size() ? out.get(i).level * 100000000 + out.get(i).key : -3;
    }

    int between(int level, int a, int b) {
        if (!isSheet(level, a) || !isSheet(level, b)) {
            return -1;
        }
        int lat = middle(level, a, 0);
        int lat2 = middle(level, b, 0);
        return inBox(Math.min(lat, lat2), Math.max(lat, lat2), middle(level, a, 1), middle(level, b, 1), level).size();
    }

    int wider(int level, int a, int b) {
        if (!isSheet(level, a) || !isSheet(level, b)) {
            return -1000000;
        }
        Rect x = rect(level, a);
        Rect y = rect(level, b);
        return Long.compare(x.east - x.west, y.east - y.west);
    }

    int before(int level, int a, int b) {
        if (!isSheet(level, a) || !isSheet(level, b)) {
            return -1000000;
        }
        return Integer.signum(rect(level, a).name().compareTo(rect(level, b).name()));
    }

    int moved(int lat, int lon, int north, int east, int level) {
        if (!isPlace(lat, lon) || !isLevel(level)) {
            return -1;
        }
        try {
            int lat2 = Math.addExact(lat, north);
            int lon2 = Math.addExact(lon, east);
            return Math.abs((long) lat2) > 324000 ? -3 : rectAt(lat2, Math.floorMod(lon2, 1296000), level).key;
        } catch (ArithmeticException beyond) {
            return -2;
        }
    }

    int ask(int n) {
        if (n < 1 || n > 100 || tape.size() < n) {
            return -1;
        }
        String question = takeTape(n);
        String[] words = {"north", "east", "south", "west", "above", "steps", "between"};
        int blank = question.indexOf(' ');
        Read read = new Read();
        int word = -1;
        if (blank < 0) {
            read.fault = 1;
            read.place = n;
            read.ended = true;
        } else {
            word = Arrays.asList(words).indexOf(question.substring(0, blank));
            read.fault = word < 0 ? 1 : 0;
        }
        List<Rect> sheets = new ArrayList<>();
        int from = blank + 1;
        int names = word >= 5 ? 2 : 1;
        for (int i = 0; i < names && read.fault == 0; i++) {
            if (from > n) {
                read.fault = 1;
                read.place = n;
                read.ended = true;
                break;
            }
            int next = names == 2 && i == 0 ? question.indexOf(' ', from) : -1;
            int end = next < 0 ? n : next;
            read = readName(question.substring(from, end));
            read.place += from;
            sheets.add(read.sheet);
            from = end + 1;
        }
        countText(read);
        return read.fault > 0 ? -1000 * read.fault - read.place : answer(word, sheets);
    }

    private int answer(int word, List<Rect> sheets) {
        Rect x = sheets.get(0);
        if (word < 4) {
            List<Rect> out = beside(x, word);
            return out.isEmpty() ? -2 : out.get(0).key;
        }
        if (word == 4) {
            return x.level == 0 ? -2 : x.parent.key;
        }
        Rect y = sheets.get(1);
        if (x.level != y.level) {
            return -2;
        }
        return word == 5 ? steps(x.level, x.key, y.key) : between(x.level, x.key, y.key);
    }

    private Rect stored(int level, int key) {
        Rect x = rect(level, key);
        return x.cap ? up(x, 0) : x;
    }

    private Piece piece(Rect x) {
        for (Piece p : store) {
            if (p.level == x.level && p.key == x.key) {
                return p;
            }
        }
        return null;
    }

    int store(int level, int key, int year) {
        if (!isSheet(level, key) || year < 1800 || year > 2100) {
            return -1;
        }
        Rect x = stored(level, key);
        Piece there = piece(x);
        if (there == null && store.size() == 60) {
            return -2;
        }
        store.remove(there);
        store.add(new Piece(x.level, x.key, year));
        store.sort(Comparator.comparingInt((Piece p) -> p.level).thenComparingInt(p -> p.key));
        return store.size();
    }

    int drop(int level, int key) {
        if (!isSheet(level, key)) {
            return -1;
        }
        Piece there = piece(stored(level, key));
        store.remove(there);
        return there == null ? -2 : there.year;
    }

    int piece(int i, int what) {
        if (i < 0 || what < 0 || what > 2) {
            return -1;
        }
        if (i >= store.size()) {
            return -2;
        }
        Piece p = store.get(i);
        return new int[] {p.level, p.key, p.year}[what];
    }

    private List<Piece> showing(int lat, int lon) {
        List<Piece> out = new ArrayList<>();
        for (Piece p : store) {
            if (holds(rect(p.level, p.key), lat * UNIT, lon * UNIT)) {
                out.add(p);
            }
        }
        return out;
    }

    int shown(int lat, int lon, int what) {
        if (!isPlace(lat, lon) || what < 0 || what > 2) {
            return -1;
        }
        List<Piece> by = showing(lat, lon);
        if (what == 0) {
            return by.size();
        }
        return by.stream().mapToInt(p -> what == 1 ? p.level : p.year).max().orElse(-2);
    }

    int lacks(int a, int b, int w, int e, int level, int year, int i) {
        if (!isBox(a, b, w, e) || !isLevel(level) || year < 0 || year > 2100 || i < -1) {
            return -1;
        }
        List<Rect> in = inBox(a, b, w, e, level);
        if (in.size() > 4000) {
            return -2;
        }
        List<Rect> out = new ArrayList<>();
        for (Rect x : in) {
            boolean has = false;
            for (Piece p : showing(middle(level, x.key, 0), middle(level, x.key, 1))) {
                has |= p.year >= year;
            }
            if (!has) {
                out.add(x);
            }
        }
        return pick(out, i, -3);
    }

    int years(int from, int to, int what) {
        if (from < 0 || from > 2100 || to < 0 || to > 2100 || what < 0 || what > 2) {
            return -1;
        }
        List<Integer> found = new ArrayList<>();
        for (Piece p : store) {
            if (p.year >= from && p.year <= to) {
                found.add(p.year);
            }
        }
        if (what == 0) {
            return found.size();
        }
        return found.isEmpty() ? -2 : what == 1 ? Collections.min(found) : Collections.max(found);
    }

    int renew(int level, int year) {
        if (!isLevel(level) || year < 1800 || year > 2100) {
            return -1;
        }
        int many = 0;
        for (Piece p : store) {
            if (p.level == level && p.year < year) {
                p.year = year;
                many++;
            }
        }
        return many;
    }

    int oldest(int level, int what) {
        if (!isLevel(level) || what < 0 || what > 2) {
            return -1;
        }
        List<Piece> found = new ArrayList<>();
        for (Piece p : store) {
            if (p.level == level) {
                found.add(p);
            }
        }
        if (found.isEmpty()) {
            return -2;
        }
        found.sort(Comparator.comparingInt((Piece p) -> p.year).thenComparingInt(p -> p.key));
        Piece p = found.get(0);
        int alike = (int) found.stream().filter(q -> q.year == p.year).count();
        return new int[] {p.key, p.year, alike}[what];
    }

    int tidy() {
        List<Piece> stay = new ArrayList<>();
        for (Piece p : store) {
            boolean needless = false;
            for (Piece q : store) {
                needless |= q.level < p.level && q.year >= p.year
                        && up(rect(p.level, p.key), q.level) == rect(q.level, q.key);
            }
            if (!needless) {
                stay.add(p);
            }
        }
        int gone = store.size() - stay.size();
        store = stay;
        return gone;
    }

    private static int between(int from, int to, int i, int n) {
        java.math.BigDecimal way = new java.math.BigDecimal(to - from).multiply(new java.math.BigDecimal(i));
        return new java.math.BigDecimal(from).add(way.divide(new java.math.BigDecimal(n), 30, java.math.RoundingMode.HALF_UP))
                .add(new java.math.BigDecimal("1e-20")).setScale(0, java.math.RoundingMode.FLOOR).intValue();
    }

    int changes(int lat, int lon, int lat2, int lon2, int n, int level) {
        if (!isPlace(lat, lon) || !isPlace(lat2, lon2) || n < 1 || n > 200 || !isLevel(level)) {
            return -1;
        }
        int many = 0;
        for (int i = 0; i < n; i++) {
            Rect x = rectAt(between(lat, lat2, i, n), between(lon, lon2, i, n), level);
            Rect y = rectAt(between(lat, lat2, i + 1, n), between(lon, lon2, i + 1, n), level);
            many += x == y ? 0 : 1;
        }
        return many;
    }

    int drawn(int seed, int n, int level) {
        if (n < 1 || n > 200 || !isLevel(level)) {
            return -1;
        }
        Set<Rect> unlike = new HashSet<>();
        long x = Math.floorMod((long) seed, 65536L);
        for (int i = 0; i < n; i++) {
            x = (25173 * x + 13849) % 65536;
            int lat = (int) (x / 4 % 16384 * 39 - 319488);
            x = (25173 * x + 13849) % 65536;
            int lon = (int) (x / 4 % 16384 * 79);
            unlike.add(rectAt(lat, lon, level));
        }
        return unlike.size();
    }

    int bands(int level, int from, int to) {
        if (!isSheet(level, from) || !isSheet(level, to) || from > to) {
            return -1;
        }
        Set<Integer> found = new HashSet<>();
        for (int key = from; key <= to; key++) {
            if (!rect(level, key).cap) {
                found.add(rect(level, key).band);
            }
        }
        return found.size();
    }

    int count(int what) {
        if (what < 0 || what > 6) {
            return -1;
        }
        return what == 0 ? store.size() : what == 1 ? tape.size() : what == 2 ? kept.size() : texts[what - 3];
    }

    private List<Piece> copy(List<Piece> from) {
        List<Piece> out = new ArrayList<>();
        for (Piece p : from) {
            out.add(new Piece(p.level, p.key, p.year));
        }
        return out;
    }

    int keep() {
        if (kept.size() == 8) {
            return -1;
        }
        kept.add(new Object[] {world, copy(store), texts.clone()});
        return kept.size();
    }

    @SuppressWarnings("unchecked")
    int undo() {
        if (kept.isEmpty()) {
            return -1;
        }
        Object[] last = kept.remove(kept.size() - 1);
        world = (World) last[0];
        store = (List<Piece>) last[1];
        texts = (int[]) last[2];
        return kept.size();
    }
}
