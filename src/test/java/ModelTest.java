import java.util.ArrayList;
import java.util.List;
import java.util.Random;

/**
 * Runs of drawn calls, each answered by the program and by the slow WorldModel: the answers must be
 * alike. The draws begin with a fixed number, so each test run is the same.
 */
public final class ModelTest {
    private static final int CALLS = 512;
    private static final String[] NAMES = {
        "feed", "cut", "level", "key", "name", "named", "edge", "middle", "at", "keyAt", "parent", "child",
        "common", "neighbour", "around", "side", "steps", "way", "reach", "farthest", "corners", "jog", "box",
        "cover", "between", "wider", "before", "moved", "ask", "store", "drop", "piece", "shown", "lacks",
        "years", "renew", "oldest", "tidy", "changes", "drawn", "bands", "count", "keep", "undo", "text"};
    /** The model is slow where a LEVEL has many SHEETS: such are looked at in other tests. */
    private static final int MOST_IN_MODEL = 140000;

    private final Random draws;
    private final boolean manyCuts;
    private final boolean manyPieces;
    private final SheetNames program = new SheetNames();
    private final WorldModel model = new WorldModel();
    private final List<String> told = new ArrayList<>();
    private final int[] asked = new int[NAMES.length];
    private int wrong = 0;

    private ModelTest(int run) {
        draws = new Random(run);
        manyCuts = run % 3 == 1;
        manyPieces = run % 3 == 2;
    }

    public static void main(String[] args) {
        int runs = args.length > 0 ? Integer.parseInt(args[0]) : 60;
        int from = args.length > 1 ? Integer.parseInt(args[1]) : 0;
        int failed = 0;
        for (int run = from; run < from + runs; run++) {
            ModelTest test = new ModelTest(run);
            if (!test.isAlike()) {
                failed++;
                System.out.println("run " + run + " with the model: " + test.told.get(test.told.size() - 1));
            }
        }
        System.out.println((runs - failed) + " passed, " + failed + " failed");
        if (failed > 0) {
            System.exit(1);
        }
    }

    private boolean isAlike() {
        if (manyCuts) {
            for (int i = 0; i < 4; i++) {
                call(1);
            }
        }
        for (int i = told.size(); i < CALLS - 2 && wrong == 0; i++) {
            call(drawCall());
        }
        return wrong == 0;
    }

    private int drawCall() {
        int call = draws.nextInt(NAMES.length);
        if (call == 1 && draws.nextInt(4) > 0) {
            call = 44;
        }
        if (manyPieces && draws.nextInt(3) == 0) {
            call = 29;
        }
        boolean far = call >= 16 && call <= 19;
        return far && draws.nextInt(4) > 0 ? 29 + draws.nextInt(9) : call;
    }

    // ---- what is drawn

    private int n(int bound) {
        return draws.nextInt(bound);
    }

    private int of(int... list) {
        return list[n(list.length)];
    }

    private int small(int from, int to) {
        return n(12) == 0 ? of(from - 1, to + 1, -2, 99, Integer.MAX_VALUE, Integer.MIN_VALUE) : from + n(to - from + 1);
    }

    private int lat() {
        switch (n(8)) {
            case 0: return of(324000, -324000, 316800, 316799, -316800, -316801, 0, -1, 324001, -324001);
            case 1: return 14400 * (n(45) - 22) + of(-1, 0, 1);
            case 2: return 900 * (n(705) - 352) + of(-1, 0, 1);
            case 3: return 2400 * (n(264) - 132) + of(-1, 0, 1);
            default: return n(648001) - 324000;
        }
    }

    private int lon() {
        switch (n(8)) {
            case 0: return of(0, 1, 1295999, 1295998, 1296000, -1, 648000);
            case 1: return 21600 * n(60) + of(0, 1, 21599);
            case 2: return 1350 * n(960) + of(0, 1, 1349);
            case 3: return 3600 * n(360) + of(0, 1, 3599);
            default: return n(1296000);
        }
    }

    private int level() {
        int level = n(20) == 0 ? of(-1, 5, 99) : of(0, 0, 0, 1, 1, 1, 2, 2, 3, 4);
        return model.isLevel(level) && model.sheetsOf(level) > MOST_IN_MODEL ? 0 : level;
    }

    private int key(int level) {
        if (!model.isLevel(level)) {
            return n(2000);
        }
        int many = (int) model.sheetsOf(level);
        switch (n(10)) {
            case 0: return of(0, 1, 2, many - 1, many - 2, many, -1);
            case 1: return of(0, many - 1);
            case 2:
            case 3: return edgeOfRow(level);
            default: return n(many);
        }
    }

    private int edgeOfRow(int level) {
        List<List<WorldModel.Rect>> rows = model.world.rows(level);
        List<WorldModel.Rect> row = rows.get(n(rows.size()));
        int place = of(0, row.size() - 1, n(row.size()));
        return row.get(place).key;
    }

    private int keyNear(int level, int key) {
        if (!model.isSheet(level, key) || n(3) == 0) {
            return key(level);
        }
        List<WorldModel.Rect> near = model.all(model.rect(level, key));
        return near.get(n(near.size())).key;
    }

    private int i(int many) {
        return n(10) == 0 ? of(-2, -1, many, many + 1, 1000000, Integer.MIN_VALUE) : n(many + 2) - 1;
    }

    private int year() {
        return n(15) == 0 ? of(0, 1799, 1800, 2100, 2101, -1) : 1990 + n(6);
    }

    private int lonBehind(int w) {
        switch (n(5)) {
            case 0: return lon();
            case 1: return Math.floorMod(w - 1 - n(3), 1296000);
            case 2: return w;
            default: return Math.floorMod((long) w + n(200000), 1296000);
        }
    }

    private int latOver(int a) {
        return n(4) == 0 ? lat() : Math.min(324000, a + n(60000));
    }

    private String name() {
        int level = level();
        if (!model.isLevel(level)) {
            level = 0;
        }
        String name = model.rect(level, n((int) model.sheetsOf(level))).name();
        StringBuilder out = new StringBuilder(name);
        int change = n(9);
        if (change == 0) {
            out.setCharAt(n(out.length()), "NSAVWZ0196- xn".charAt(n(14)));
        } else if (change == 1) {
            out.insert(n(out.length() + 1), "0-19 ZN".charAt(n(7)));
        } else if (change == 2) {
            out.setLength(n(out.length()));
        } else if (change == 3) {
            out.append(n(2) == 0 ? "-" + n(40) : "-1-1-1-1-1");
        } else if (change == 4) {
            out.append("-0").append(1 + n(4));
        }
        return out.toString();
    }

    private String question() {
        String[] words = {"north", "east", "south", "west", "above", "steps", "between", "North", "up", ""};
        String word = words[n(n(6) == 0 ? words.length : 7)];
        StringBuilder out = new StringBuilder(word);
        if (n(15) > 0) {
            out.append(' ');
        }
        out.append(name());
        if (word.equals("steps") || word.equals("between") || n(20) == 0) {
            out.append(n(15) > 0 ? " " : "").append(name());
        }
        return out.toString();
    }

    // ---- the calls

    private void due(String call, long got, long want) {
        told.add(call + " answered " + got + ", the model " + want);
        if (got != want) {
            wrong++;
        }
    }

    private static String row(String call, long... numbers) {
        StringBuilder out = new StringBuilder(call);
        for (long number : numbers) {
            out.append(' ').append(number);
        }
        return out.toString();
    }

    private void feed(String text) {
        StringBuilder padded = new StringBuilder(text);
        while (padded.length() % 20 != 0 || padded.length() == 0) {
            padded.append('a');
        }
        for (int i = 0; i < padded.length(); i += 20) {
            int[] four = new int[5];
            for (int k = 0; k < 20; k++) {
                four[k / 4] = four[k / 4] << 8 | padded.charAt(i + k);
            }
            due(row("feed", four[0], four[1], four[2], four[3], four[4]),
                    program.feed(four[0], four[1], four[2], four[3], four[4]),
                    model.feed(four[0], four[1], four[2], four[3], four[4]));
        }
    }

    private void emptyTape() {
        if (!model.tape.isEmpty()) {
            due("named 1 0", program.named(1, 0), model.named(1, 0));
        }
    }

    private void tellText() {
        emptyTape();
        String text = n(2) == 0 ? name() : question();
        if (text.isEmpty() || text.length() > 100) {
            text = "north NA1";
        }
        feed(text);
        if (text.length() <= 40 && n(4) > 0 == text.indexOf(' ') < 0) {
            int what = n(2);
            due(row("named " + text, what), program.named(text.length(), what), model.named(text.length(), what));
        } else {
            due("ask " + text, program.ask(text.length()), model.ask(text.length()));
        }
    }

    private void call(int call) {
        asked[call]++;
        if (call < 12) {
            callOfPlaces(NAMES[call]);
        } else if (call < 22) {
            callOfNeighbours(NAMES[call]);
        } else if (call < 28) {
            callOfBoxes(NAMES[call]);
        } else if (call < 38) {
            callOfStore(NAMES[call]);
        } else {
            callOfRest(NAMES[call]);
        }
    }

    private void callOfPlaces(String call) {
        int level = level();
        int key = key(level);
        int what = small(0, 5);
        int to = small(0, 4);
        if (to >= 0 && to <= 4 && model.sheetsOf(to) > MOST_IN_MODEL) {
            to = 5;
        }
        switch (call) {
            case "feed": {
                int a = draws.nextInt();
                due(row(call, a), program.feed(a, 0, -1, a, 7), model.feed(a, 0, -1, a, 7));
                break;
            }
            case "cut": {
                int r = small(1, n(2) == 0 ? 6 : 3);
                int c = small(1, n(2) == 0 ? 6 : 3);
                int of = small(1, 4);
                due(row(call, of, r, c), program.cut(of, r, c), model.cut(of, r, c));
                break;
            }
            case "level": {
                int of = small(0, 4);
                due(row(call, of, what), program.level(of, what), model.level(of, what));
                break;
            }
            case "key": {
                int lat = lat();
                int lon = lon();
                due(row(call, lat, lon, level), program.key(lat, lon, level), model.key(lat, lon, level));
                break;
            }
            case "name": {
                int i = i(9);
                due(row(call, level, key, i), program.name(level, key, i), model.name(level, key, i));
                break;
            }
            case "named":
                tellText();
                break;
            case "edge": {
                int of = small(0, 7);
                due(row(call, level, key, of), program.edge(level, key, of), model.edge(level, key, of));
                break;
            }
            case "middle": {
                int of = small(0, 1);
                due(row(call, level, key, of), program.middle(level, key, of), model.middle(level, key, of));
                break;
            }
            case "at":
                due(row(call, level, key, what), program.at(level, key, what), model.at(level, key, what));
                break;
            case "keyAt": {
                int line = small(0, model.isLevel(level) ? model.world.rows(level).size() - 1 : 5);
                int place = n(3) == 0 ? of(0, 14, 15, 59, 60, 119, 120, -1) : n(70);
                due(row(call, level, line, place), program.keyAt(level, line, place), model.keyAt(level, line, place));
                break;
            }
            case "parent":
                due(row(call, level, key, to), program.parent(level, key, to), model.parent(level, key, to));
                break;
            default: {
                int i = i(5);
                due(row(call, level, key, to, i), program.child(level, key, to, i), model.child(level, key, to, i));
                break;
            }
        }
    }

    private void callOfNeighbours(String call) {
        int level = level();
        int key = key(level);
        int other = keyNear(level, key);
        switch (call) {
            case "common": {
                int lat = lat();
                int lon = lon();
                int lat2 = n(3) == 0 ? lat() : lat + n(2000);
                int lon2 = n(3) == 0 ? lon() : lon + n(2000);
                model.world.level(2);
                if (model.sheetsOf(4) <= 600000) {
                    due(row(call, lat, lon, lat2, lon2), program.common(lat, lon, lat2, lon2),
                            model.common(lat, lon, lat2, lon2));
                }
                break;
            }
            case "neighbour": {
                int side = small(0, 3);
                int i = i(2);
                due(row(call, level, key, side, i), program.neighbour(level, key, side, i),
                        model.neighbour(level, key, side, i));
                break;
            }
            case "around": {
                int i = i(5);
                due(row(call, level, key, i), program.around(level, key, i), model.around(level, key, i));
                break;
            }
            case "side":
                due(row(call, level, key, other), program.side(level, key, other), model.side(level, key, other));
                break;
            case "steps": {
                int far = key(level);
                due(row(call, level, key, far), program.steps(level, key, far), model.steps(level, key, far));
                break;
            }
            case "way": {
                int far = n(2) == 0 ? other : key(level);
                int i = i(12);
                due(row(call, level, key, far, i), program.way(level, key, far, i), model.way(level, key, far, i));
                break;
            }
            case "reach": {
                int d = n(12) == 0 ? of(-1, 500, Integer.MAX_VALUE) : n(30);
                due(row(call, level, key, d), program.reach(level, key, d), model.reach(level, key, d));
                break;
            }
            case "farthest": {
                int what = small(0, 1);
                due(row(call, level, key, what), program.farthest(level, key, what), model.farthest(level, key, what));
                break;
            }
            case "corners": {
                int i = i(4);
                due(row(call, level, key, i), program.corners(level, key, i), model.corners(level, key, i));
                break;
            }
            default: {
                int side = n(3) == 0 ? small(0, 3) : of(0, 2);
                due(row(call, level, key, side), program.jog(level, key, side), model.jog(level, key, side));
                break;
            }
        }
    }

    private void callOfBoxes(String call) {
        int level = level();
        int key = key(level);
        int other = key(level);
        int a = lat();
        int b = latOver(a);
        int w = lon();
        int e = lonBehind(w);
        switch (call) {
            case "box": {
                int i = i(n(3) == 0 ? 200 : 12);
                due(row(call, a, b, w, e, level, i), program.box(a, b, w, e, level, i), model.box(a, b, w, e, level, i));
                break;
            }
            case "cover": {
                int i = i(n(3) == 0 ? 200 : 12);
                due(row(call, a, b, w, e, level, i), program.cover(a, b, w, e, level, i),
                        model.cover(a, b, w, e, level, i));
                break;
            }
            case "between":
                due(row(call, level, key, other), program.between(level, key, other), model.between(level, key, other));
                break;
            case "wider":
                due(row(call, level, key, other), program.wider(level, key, other), model.wider(level, key, other));
                break;
            case "before": {
                int near = keyNear(level, key);
                due(row(call, level, key, near), program.before(level, key, near), model.before(level, key, near));
                break;
            }
            default: {
                int north = n(6) == 0 ? of(Integer.MAX_VALUE, Integer.MIN_VALUE) : n(400000) - 200000;
                int east = n(6) == 0 ? of(Integer.MAX_VALUE, Integer.MIN_VALUE, -1, 1295999) : n(4000000) - 2000000;
                due(row(call, a, w, north, east, level), program.moved(a, w, north, east, level),
                        model.moved(a, w, north, east, level));
                break;
            }
        }
    }

    private int keyOfStore(int level) {
        for (WorldModel.Piece p : model.store) {
            if (p.level == level && n(3) == 0) {
                return p.key;
            }
        }
        return key(level);
    }

    private int keyToStore(int level) {
        for (WorldModel.Piece p : model.store) {
            if (model.isLevel(level) && p.level < level && n(8) == 0) {
                return model.child(p.level, p.key, level, 0);
            }
        }
        return keyOfStore(level);
    }

    private void callOfStore(String call) {
        int level = level();
        switch (call) {
            case "ask":
                tellText();
                break;
            case "store": {
                int key = keyToStore(level);
                int year = year();
                due(row(call, level, key, year), program.store(level, key, year), model.store(level, key, year));
                break;
            }
            case "drop": {
                int key = keyOfStore(level);
                due(row(call, level, key), program.drop(level, key), model.drop(level, key));
                break;
            }
            case "piece": {
                int i = i(30);
                int what = small(0, 2);
                due(row(call, i, what), program.piece(i, what), model.piece(i, what));
                break;
            }
            case "shown":
                callShown();
                break;
            case "lacks":
                callLacks(level);
                break;
            case "years": {
                int from = year();
                int to = year();
                int what = small(0, 2);
                due(row(call, from, to, what), program.years(from, to, what), model.years(from, to, what));
                break;
            }
            case "renew": {
                int year = year();
                due(row(call, level, year), program.renew(level, year), model.renew(level, year));
                break;
            }
            case "oldest": {
                int what = small(0, 2);
                due(row(call, level, what), program.oldest(level, what), model.oldest(level, what));
                break;
            }
            default:
                due(call, program.tidy(), model.tidy());
                break;
        }
    }

    private void callShown() {
        int lat = lat();
        int lon = lon();
        if (!model.store.isEmpty() && n(3) > 0) {
            WorldModel.Piece p = model.store.get(n(model.store.size()));
            lat = model.middle(p.level, p.key, 0);
            lon = model.middle(p.level, p.key, 1);
        }
        int what = small(0, 2);
        due(row("shown", lat, lon, what), program.shown(lat, lon, what), model.shown(lat, lon, what));
    }

    private void callLacks(int level) {
        int a = lat();
        int b = latOver(a);
        int w = lon();
        if (!model.store.isEmpty() && n(3) > 0) {
            WorldModel.Piece p = model.store.get(n(model.store.size()));
            a = model.middle(p.level, p.key, 0) - n(2000);
            b = latOver(a);
            w = model.middle(p.level, p.key, 1);
        }
        int e = lonBehind(w);
        int year = year();
        int i = i(20);
        due(row("lacks", a, b, w, e, level, year, i), program.lacks(a, b, w, e, level, year, i),
                model.lacks(a, b, w, e, level, year, i));
    }

    private void callOfRest(String call) {
        int level = level();
        switch (call) {
            case "changes": {
                int lat = lat();
                int lon = lon();
                int lat2 = lat();
                int lon2 = lon();
                int parts = n(8) == 0 ? of(0, 1, 200, 201) : 1 + n(200);
                due(row(call, lat, lon, lat2, lon2, parts, level), program.changes(lat, lon, lat2, lon2, parts, level),
                        model.changes(lat, lon, lat2, lon2, parts, level));
                break;
            }
            case "drawn": {
                int seed = draws.nextInt();
                int many = n(8) == 0 ? of(0, 1, 200, 201) : 1 + n(200);
                due(row(call, seed, many, level), program.drawn(seed, many, level), model.drawn(seed, many, level));
                break;
            }
            case "bands": {
                int from = key(level);
                int to = n(3) == 0 ? key(level) : from + n(300);
                due(row(call, level, from, to), program.bands(level, from, to), model.bands(level, from, to));
                break;
            }
            case "count": {
                int what = small(0, 6);
                due(row(call, what), program.count(what), model.count(what));
                break;
            }
            case "keep":
                due(call, program.keep(), model.keep());
                break;
            case "undo":
                due(call, program.undo(), model.undo());
                break;
            default:
                tellText();
                break;
        }
    }
}
