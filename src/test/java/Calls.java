/** What the tests do again and again with a SheetNames: texts onto the tape, names as texts, cuts. */
abstract class Calls {
    static final int NONE = SheetNames.NONE;
    static final int LEAST = Integer.MIN_VALUE;
    static final int MOST = Integer.MAX_VALUE;

    /** Puts a text on the tape, up to the next whole call of feed() with b behind it. */
    static void feed(SheetNames x, String text) {
        for (int i = 0; i < text.length(); i += 20) {
            int[] four = new int[5];
            for (int k = 0; k < 20; k++) {
                char sign = i + k < text.length() ? text.charAt(i + k) : 'b';
                four[k / 4] = four[k / 4] << 8 | sign;
            }
            x.feed(four[0], four[1], four[2], four[3], four[4]);
        }
    }

    static int named(SheetNames x, String text, int what) {
        feed(x, text);
        return x.named(text.length(), what);
    }

    static int ask(SheetNames x, String text) {
        feed(x, text);
        return x.ask(text.length());
    }

    static String name(SheetNames x, int level, int key) {
        StringBuilder out = new StringBuilder();
        int many = x.name(level, key, NONE);
        for (int i = 0; i < many; i++) {
            out.append((char) x.name(level, key, i));
        }
        return out.toString();
    }

    /** Cuts of LEVELS 1 to 4, r and c of each in turn, and 1 and 1 of the others. */
    static SheetNames cut(SheetNames x, int... cuts) {
        for (int level = 4; level >= 1; level--) {
            x.cut(level, 1, 1);
        }
        for (int i = 0; i + 1 < cuts.length; i += 2) {
            x.cut(i / 2 + 1, cuts[i], cuts[i + 1]);
        }
        return x;
    }

    static SheetNames uncut() {
        return cut(new SheetNames());
    }

    // ---- all answers of a call with i

    static int[] neighbours(SheetNames x, int level, int key, int side) {
        int[] out = new int[Math.max(0, x.neighbour(level, key, side, NONE))];
        for (int i = 0; i < out.length; i++) {
            out[i] = x.neighbour(level, key, side, i);
        }
        return out;
    }

    static int[] around(SheetNames x, int level, int key) {
        int[] out = new int[Math.max(0, x.around(level, key, NONE))];
        for (int i = 0; i < out.length; i++) {
            out[i] = x.around(level, key, i);
        }
        return out;
    }

    static int[] corners(SheetNames x, int level, int key) {
        int[] out = new int[Math.max(0, x.corners(level, key, NONE))];
        for (int i = 0; i < out.length; i++) {
            out[i] = x.corners(level, key, i);
        }
        return out;
    }

    static int[] box(SheetNames x, int a, int b, int w, int e, int level) {
        int[] out = new int[Math.max(0, x.box(a, b, w, e, level, NONE))];
        for (int i = 0; i < out.length; i++) {
            out[i] = x.box(a, b, w, e, level, i);
        }
        return out;
    }

    static int[] cover(SheetNames x, int a, int b, int w, int e, int level) {
        int[] out = new int[Math.max(0, x.cover(a, b, w, e, level, NONE))];
        for (int i = 0; i < out.length; i++) {
            out[i] = x.cover(a, b, w, e, level, i);
        }
        return out;
    }

    static int[] lacks(SheetNames x, int a, int b, int w, int e, int level, int year) {
        int[] out = new int[Math.max(0, x.lacks(a, b, w, e, level, year, NONE))];
        for (int i = 0; i < out.length; i++) {
            out[i] = x.lacks(a, b, w, e, level, year, i);
        }
        return out;
    }
}
