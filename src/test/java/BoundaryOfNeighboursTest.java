/** The boundary cases of the terms of part 2 (KEYS, ROWS, NEIGHBOURS, BOXES) and of promises 15 to 29. */
public final class BoundaryOfNeighboursTest extends Sentences {
    private static final int NO_NUMBER = -1000000;
    private static final int WEIGHT = 100000000;

    public static void main(String[] args) {
        readDocument();
        keysAndRows();
        whatANeighbourIs();
        whatABoxHas();
        whatACoverHas();
        promise15();
        promise16();
        promise17();
        promise18();
        promise19();
        promise20();
        promise21();
        promise22();
        promise23();
        promise24();
        promise25();
        promise26();
        promise27();
        promise28();
        promise29();
        end(15, 29);
    }

    // ---- terms

    private static void keysAndRows() {
        SheetNames x = told(TERMS, "from THE NORTH CAP (0) on, row by row from the north, in a row from LON 0 on,"
                + " THE SOUTH CAP last");
        due(x.key(324000, 1295999, 1), 0);
        due(x.key(316799, 0, 1), 1);
        due(x.key(316799, 1295999, 1), 30);
        due(x.key(309600, 0, 1), 1);
        due(x.key(309599, 0, 1), 31);
        due(x.key(-316800, 1295999, 1), 8520);
        due(x.key(-316801, 0, 1), 8521);
        due(x.level(1, 0), 8522);

        x = told(TERMS, "row by row from the north, in a row from LON 0 on");
        rowsOfBandsAreInOrder(x, 16);
        x = cut(told(TERMS, "row by row from the north, in a row from LON 0 on"), 6, 1, 6, 1, 6, 1, 6, 1);
        rowsOfBandsAreInOrder(x, 1296);
        x = cut(told(TERMS, "row by row from the north, in a row from LON 0 on"), 1, 6, 1, 6, 1, 6, 1, 6);
        rowsOfBandsAreInOrder(x, 1);

        x = told(TERMS, "all together 44 times that; and both CAPS: ROW 0 is THE NORTH CAP");
        due(x.level(0, 1), 46);
        due(x.level(1, 1), 90);
        x.cut(1, 1, 6);
        due(x.level(1, 1), 46);
        x.cut(1, 6, 1);
        due(x.level(1, 1), 266);
        due(x.at(1, 0, 0), 0);
        due(x.at(1, 1, 0), 1);
        due(x.at(1, x.level(1, 0) - 2, 0), 264);
        due(x.at(1, x.level(1, 0) - 1, 0), 265);
    }

    /** The ends of the first, the last and one other ROW of each BAND at LEVEL 4. */
    private static void rowsOfBandsAreInOrder(SheetNames x, int rows) {
        int ahead = 1;
        for (int band = 21; band >= -22; band--) {
            int first = (21 - band) * rows + 1;
            int length = x.at(4, x.keyAt(4, first, 0), 2);
            int inside = ahead + rows / 2 * length;
            due(x.at(4, ahead, 0), first);
            due(x.at(4, ahead + length - 1, 1), length - 1);
            due(x.at(4, inside, 0), first + rows / 2);
            due(x.at(4, inside + length - 1, 0), first + rows / 2);
            ahead += rows * length;
            due(x.at(4, ahead - length, 1), 0);
            due(x.at(4, ahead - 1, 0), first + rows - 1);
        }
        due(ahead, x.level(4, 0) - 1);
    }

    private static void whatANeighbourIs() {
        SheetNames x = told(TERMS, "have a piece of an edge with it in common (more than one point)");
        due(x.side(0, 1006, 947), -2);
        due(x.side(0, 1006, 1125), -2);
        due(x.side(0, 169, 137), 0);
        due(x.side(0, 169, 138), -2);
        due(x.side(0, 137, 168), 2);
        due(x.side(0, 137, 169), 2);
        due(x.side(0, 137, 167), -2);
        due(x.side(0, 137, 170), -2);

        x = told(TERMS, "to the west, the east: in its ROW (going round; of a CAP none)");
        due(x.neighbour(0, 1006, 3, 0), 1065);
        due(x.neighbour(0, 1065, 1, 0), 1006);
        due(x.neighbour(0, 15, 1, 0), 1);
        due(x.neighbour(0, 1, 3, 0), 15);
        due(x.neighbour(1, 8491, 3, 0), 8520);
        for (int level = 0; level <= 4; level++) {
            due(x.neighbour(level, 0, 1, NONE), 0);
            due(x.neighbour(level, 0, 3, NONE), 0);
            due(x.neighbour(level, x.level(level, 0) - 1, 1, NONE), 0);
            due(x.neighbour(level, x.level(level, 0) - 1, 3, NONE), 0);
        }

        x = told(TERMS, "NEIGHBOURS of a CAP: the whole ROW beside it");
        due(x.neighbour(0, 0, 2, NONE), 15);
        due(x.neighbour(0, 0, 2, 0), 1);
        due(x.neighbour(0, 0, 2, 14), 15);
        due(x.neighbour(4, 0, 2, NONE), 240);
        due(x.neighbour(4, 545281, 0, NONE), 240);
        due(x.neighbour(4, 545281, 0, 0), 545041);
        due(x.neighbour(4, 545281, 0, 239), 545280);
        due(x.side(0, 0, 16), -2);

        x = told(TERMS, "(0: the same)");
        due(x.steps(0, 5, 5), 0);
        due(x.steps(1, 0, 0), 0);
        due(x.steps(1, 8521, 8521), 0);
    }

    private static void whatABoxHas() {
        SheetNames x = told(TERMS, "A BOX: LAT a to b (a at most b)");
        due(x.box(0, 0, 0, 0, 0, NONE), 1);
        due(x.box(1, 0, 0, 0, 0, NONE), NONE);
        due(x.box(0, 14399, 0, 0, 0, NONE), 1);
        due(x.box(0, 14400, 0, 0, 0, NONE), 2);
        due(x.box(-1, 0, 0, 0, 0, NONE), 2);
        due(x.box(324000, 324000, 0, 0, 0, 0), 0);
        due(x.box(-324000, -324000, 0, 0, 0, 0), 2131);

        x = told(TERMS, "LON from w eastwards to e (both, too; if e is below w, over LON 0)");
        dueRow(box(x, 0, 0, 0, 21599, 0), 1006);
        dueRow(box(x, 0, 0, 0, 21600, 0), 1006, 1007);
        dueRow(box(x, 0, 0, 21599, 21600, 0), 1006, 1007);
        dueRow(box(x, 0, 0, 5, 5, 0), 1006);
        dueRow(box(x, 0, 0, 1295999, 0, 0), 1065, 1006);
        dueRow(box(x, 0, 0, 1274399, 21600, 0), 1064, 1065, 1006, 1007);
        due(x.box(0, 0, 0, 1295999, 0, NONE), 60);
        due(x.box(0, 0, 5, 4, 0, NONE), 60);
        due(x.box(0, 0, 21600, 21599, 0, NONE), 60);
        due(x.box(0, 0, 43200, 21599, 0, NONE), 59);

        x = told(TERMS, "SHEETS of a LEVEL that have a PLACE of it (whole seconds)");
        cut(x, 1, 6, 1, 6, 1, 6, 1, 6);
        due(x.box(0, 0, 0, 16, 4, NONE), 1);
        due(x.box(0, 0, 16, 17, 4, NONE), 2);
        due(x.box(0, 0, 17, 33, 4, NONE), 1);
        due(x.box(0, 0, 33, 34, 4, NONE), 2);
        due(x.box(0, 0, 1295983, 16, 4, NONE), 3);
        due(x.box(0, 0, 1295984, 16, 4, NONE), 2);
        cut(x, 6, 1, 6, 1, 6, 1, 6, 1);
        due(x.box(0, 11, 0, 0, 4, NONE), 1);
        due(x.box(11, 12, 0, 0, 4, NONE), 2);
        due(x.box(12, 22, 0, 0, 4, NONE), 1);
        due(x.box(-11, -1, 0, 0, 4, NONE), 1);
        due(x.box(-12, -11, 0, 0, 4, NONE), 2);
        due(x.box(-22, -12, 0, 0, 4, NONE), 1);
    }

    private static void whatACoverHas() {
        SheetNames x = told(TERMS, "(a SHEET of a LEVEL above stands for all its pieces, if all are needed)");
        dueRow(cover(x, 0, 14399, 0, 20250, 4), 1006);
        due(x.cover(0, 14399, 0, 20249, 4, NONE), 2 + 4 + 8 + 16);
        dueRow(cover(x, 900, 13500, 1349, 21599, 1), 1006);
        due(x.cover(900, 13500, 1349, 21599, 4, NONE), 2 + 4 + 8 + 16);
        dueRow(cover(x, 0, 7200, 0, 10799, 1), WEIGHT + 4021, WEIGHT + 4141);
        dueRow(cover(x, 0, 7200, 0, 10800, 1), 1006);
        dueRow(cover(x, 0, 14399, 1274400, 0, 1), 1065, WEIGHT + 4021, WEIGHT + 4141);

        x = told(TERMS, "fewest SHEETS of LEVELS 0 to k that together are just the SHEETS of LEVEL k");
        dueRow(cover(x, -7201, -7200, 0, 10800, 0), 1066);
        dueRow(cover(x, -7201, -7200, 0, 10800, 1), 1066);
        dueRow(cover(x, -7200, -7199, 0, 10800, 1), WEIGHT + 4261, WEIGHT + 4262);
        for (int level = 0; level <= 4; level++) {
            dueRow(cover(x, 316800, 316800, 5, 5, level), 0);
            dueRow(cover(x, -324000, -316801, 5, 4, level), 2131);
        }
    }

    // ---- the promises

    private static void promise15() {
        SheetNames x = told(15, "to a side (0 north, 1 east, 2 south, 3 west)");
        dueRow(neighbours(x, 0, 1006, 0), 946);
        dueRow(neighbours(x, 0, 1006, 1), 1007);
        dueRow(neighbours(x, 0, 1006, 2), 1066);
        dueRow(neighbours(x, 0, 1006, 3), 1065);
        due(x.neighbour(0, 1006, -1, 0), NONE);
        due(x.neighbour(0, 1006, 4, 0), NONE);

        x = told(15, "i NONE: how many; else KEY of the i-th (by KEYS; -2: not so many)");
        due(x.neighbour(0, 45, 2, NONE), 2);
        due(x.neighbour(0, 45, 2, 0), 74);
        due(x.neighbour(0, 45, 2, 1), 75);
        due(x.neighbour(0, 45, 2, 2), -2);
        due(x.neighbour(0, 1, 0, 0), 0);
        due(x.neighbour(0, 1, 0, 1), -2);
        due(x.neighbour(0, 0, 0, NONE), 0);
        due(x.neighbour(0, 0, 0, 0), -2);
        due(x.neighbour(0, 2131, 2, 0), -2);
        due(x.neighbour(0, 0, 2, 15), -2);
        due(x.neighbour(0, 1006, 1, MOST), -2);

        x = told(15, "NONE: no such ones");
        due(x.neighbour(0, 1006, 1, -2), NONE);
        due(x.neighbour(0, 0, 0, LEAST), NONE);
        due(x.neighbour(0, -1, 1, 0), NONE);
        due(x.neighbour(0, 2132, 1, 99), NONE);
        due(x.neighbour(-1, 0, 2, 0), NONE);
        due(x.neighbour(5, 0, 2, 0), NONE);
    }

    private static void promise16() {
        SheetNames x = told(16, "NEIGHBOURS of a SHEET to all sides together (each once), i likewise");
        dueRow(around(x, 0, 1006), 946, 1007, 1065, 1066);
        dueRow(around(x, 0, 1065), 1005, 1006, 1064, 1125);
        dueRow(around(x, 0, 15), 0, 1, 14, 30);
        dueRow(around(x, 0, 2116), 2101, 2117, 2130, 2131);
        dueRow(around(x, 0, 45), 30, 31, 44, 74, 75);
        dueRow(around(x, 0, 1995), 1964, 1965, 1966, 1994, 2025);
        due(x.around(0, 0, NONE), 15);
        due(x.around(0, 0, 14), 15);
        due(x.around(0, 0, 15), -2);
        due(x.around(0, 1006, 3), 1066);
        due(x.around(0, 1006, 4), -2);
        due(x.around(0, 1006, MOST), -2);

        x = told(16, "i likewise");
        due(x.around(0, 1006, -2), NONE);
        due(x.around(0, 1006, LEAST), NONE);
        due(x.around(0, -1, 0), NONE);
        due(x.around(0, 2132, 99), NONE);
        due(x.around(-1, 0, 0), NONE);
        due(x.around(5, 0, 0), NONE);
    }

    private static void promise17() {
        SheetNames x = told(17, "To which side (0 to 3) SHEET b is a NEIGHBOUR of a (the least)");
        due(x.side(0, 1006, 946), 0);
        due(x.side(0, 1006, 1007), 1);
        due(x.side(0, 1006, 1066), 2);
        due(x.side(0, 1006, 1065), 3);
        due(x.side(0, 1065, 1006), 1);
        due(x.side(0, 0, 15), 2);
        due(x.side(0, 15, 0), 0);
        due(x.side(0, 2130, 2131), 2);
        due(x.side(0, 2131, 2116), 0);

        x = told(17, "-2: to none");
        due(x.side(0, 1006, 1008), -2);
        due(x.side(0, 0, 2131), -2);
        due(x.side(0, 0, 16), -2);
        due(x.side(0, 16, 0), -2);

        x = told(17, "NONE: no such ones, a is b");
        due(x.side(0, 5, 5), NONE);
        due(x.side(0, 0, 0), NONE);
        due(x.side(0, -1, 0), NONE);
        due(x.side(0, 0, 2132), NONE);
        due(x.side(-1, 0, 1), NONE);
        due(x.side(5, 0, 1), NONE);
    }

    private static void promise18() {
        SheetNames x = told(18, "STEPS from SHEET a to b");
        due(x.steps(0, 1006, 1065), 1);
        due(x.steps(0, 1006, 947), 2);
        due(x.steps(0, 1, 8), 2);
        due(x.steps(0, 0, 2131), 45);
        due(x.steps(1, 8521, 0), 89);

        x = told(18, "NONE: no such ones");
        due(x.steps(0, -1, 0), NONE);
        due(x.steps(0, 0, 2132), NONE);
        due(x.steps(-1, 0, 0), NONE);
        due(x.steps(5, 0, 0), NONE);
        due(x.steps(2, 0, 34082), NONE);

        x = told(18, "-3: SHEETS of the LEVEL are more than 20000");
        due(x.steps(2, 0, 0), -3);
        cut(x, 3, 3);
        due(x.level(1, 0), 19172);
        due(x.steps(1, 0, 1), 1);
        due(x.steps(4, 0, 1), 1);
        x.cut(1, 5, 2);
        due(x.level(1, 0), 21302);
        due(x.steps(1, 0, 1), -3);
        due(x.steps(0, 0, 1), 1);
    }

    private static void promise19() {
        SheetNames x = told(19, "The i-th SHEET (0: a) of the way from a to b of fewest STEPS");
        due(x.way(0, 1, 8, 0), 1);
        due(x.way(0, 1, 8, 1), 0);
        due(x.way(0, 1, 8, 2), 8);
        due(x.way(0, 9, 9, 0), 9);

        x = told(19, "each next one is the one of the least KEY of those that are a STEP nearer to b");
        due(x.way(0, 1006, 1067, 1), 1007);
        due(x.way(0, 1067, 1006, 1), 1007);
        due(x.way(0, 1066, 1007, 1), 1006);
        due(x.way(0, 1065, 1066, 1), 1006);
        due(x.way(0, 1066, 1065, 1), 1006);
        due(x.way(0, 1006, 1125, 1), 1065);
        due(x.way(0, 2131, 0, 1), 2116);

        x = told(19, "-2: not so many");
        due(x.way(0, 1, 8, 3), -2);
        due(x.way(0, 9, 9, 1), -2);
        due(x.way(0, 9, 9, MOST), -2);

        x = told(19, "-3: as of steps() (ahead of -2)");
        due(x.way(2, 0, 0, 0), -3);
        due(x.way(2, 0, 0, 1), -3);
        cut(x, 3, 3);
        due(x.way(1, 0, 1, 2), -2);
        x.cut(1, 5, 2);
        due(x.way(1, 0, 1, 2), -3);

        x = told(19, "NONE: no such ones");
        due(x.way(0, 1, 8, -1), NONE);
        due(x.way(0, 1, 8, LEAST), NONE);
        due(x.way(0, -1, 8, 0), NONE);
        due(x.way(0, 1, 2132, 99), NONE);
        due(x.way(-1, 0, 0, 0), NONE);
        due(x.way(5, 0, 0, 0), NONE);
        due(x.way(2, 0, -1, 0), NONE);
    }

    private static void promise20() {
        SheetNames x = told(20, "How many SHEETS are d (0 on) STEPS or fewer from a SHEET (itself, too)");
        due(x.reach(0, 1006, 0), 1);
        due(x.reach(0, 1006, 1), 5);
        due(x.reach(0, 0, 0), 1);
        due(x.reach(0, 0, 1), 16);
        due(x.reach(0, 0, 44), 2131);
        due(x.reach(0, 0, 45), 2132);
        due(x.reach(0, 0, MOST), 2132);

        x = told(20, "-3: as of steps()");
        due(x.reach(2, 0, 0), -3);
        cut(x, 3, 3);
        due(x.reach(1, 0, MOST), 19172);
        x.cut(1, 5, 2);
        due(x.reach(1, 0, 0), -3);

        x = told(20, "NONE: no such ones");
        due(x.reach(0, 1006, -1), NONE);
        due(x.reach(0, 1006, LEAST), NONE);
        due(x.reach(0, -1, 0), NONE);
        due(x.reach(0, 2132, 0), NONE);
        due(x.reach(-1, 0, 0), NONE);
        due(x.reach(5, 0, 0), NONE);
        due(x.reach(2, 0, -1), NONE);
    }

    private static void promise21() {
        SheetNames x = told(21, "what 0 how many, 1 KEY (of like ones the least)");
        due(x.farthest(0, 0, 0), 45);
        due(x.farthest(0, 0, 1), 2131);
        due(x.farthest(0, 2131, 1), 0);
        due(x.farthest(0, 1, 0), 45);
        due(x.farthest(0, 1, 1), 2118);
        due(x.steps(0, 1, 2118), 45);
        due(x.steps(0, 1, 2119), 45);
        due(x.steps(0, 1, 2117), 44);

        x = told(21, "-3: as of steps()");
        due(x.farthest(2, 0, 0), -3);
        cut(x, 3, 3);
        due(x.farthest(1, 0, 1), 19171);
        x.cut(1, 5, 2);
        due(x.farthest(1, 0, 1), -3);

        x = told(21, "NONE: no such ones");
        due(x.farthest(0, 0, -1), NONE);
        due(x.farthest(0, 0, 2), NONE);
        due(x.farthest(0, -1, 0), NONE);
        due(x.farthest(0, 2132, 0), NONE);
        due(x.farthest(-1, 0, 0), NONE);
        due(x.farthest(5, 0, 0), NONE);
        due(x.farthest(2, 0, 2), NONE);
    }

    private static void promise22() {
        SheetNames x = told(22, "SHEETS of its LEVEL that have just one point in common with a SHEET");
        dueRow(corners(x, 0, 1006), 947, 1005, 1067, 1125);
        dueRow(corners(x, 0, 1065), 946, 1004, 1066, 1124);
        dueRow(corners(x, 0, 169), 138, 228, 230);
        dueRow(corners(x, 0, 168), 136, 227, 229);
        dueRow(corners(x, 0, 137), 106, 108, 167, 170);
        dueRow(corners(x, 0, 166), 165, 227, 285);
        dueRow(corners(x, 0, 225), 136, 226, 284);
        dueRow(corners(x, 0, 1965), 1846, 1904, 1966);

        x = told(22, "(with a CAP none have, nor has a CAP with others)");
        dueRow(corners(x, 0, 1), 17, 30);
        dueRow(corners(x, 0, 2130), 2101, 2114);
        for (int level = 0; level <= 4; level++) {
            due(x.corners(level, 0, NONE), 0);
            due(x.corners(level, 0, 0), -2);
            due(x.corners(level, x.level(level, 0) - 1, NONE), 0);
            due(x.corners(level, 1, NONE), 2);
        }

        x = told(22, "i NONE: how many; else KEY of the i-th (by KEYS; -2: not so many)");
        due(x.corners(0, 1006, NONE), 4);
        due(x.corners(0, 1006, 3), 1125);
        due(x.corners(0, 1006, 4), -2);
        due(x.corners(0, 169, NONE), 3);
        due(x.corners(0, 169, 3), -2);
        due(x.corners(0, 1, 1), 30);
        due(x.corners(0, 1, 2), -2);
        due(x.corners(0, 1, MOST), -2);

        x = told(22, "NONE: no such ones");
        due(x.corners(0, 1006, -2), NONE);
        due(x.corners(0, 0, LEAST), NONE);
        due(x.corners(0, -1, 0), NONE);
        due(x.corners(0, 2132, 99), NONE);
        due(x.corners(-1, 0, 0), NONE);
        due(x.corners(5, 0, 0), NONE);
    }

    private static void promise23() {
        SheetNames x = told(23, "the ROW to that side (0 north, 2 south) has another number of SHEETS, 1, else 0");
        int[] lastOfBands = {45, 165, 1965, 2085};
        for (int key : lastOfBands) {
            due(x.jog(0, key, 2), 1);
            due(x.jog(0, key, 0), 0);
            due(x.jog(0, key + 1, 0), 1);
            due(x.jog(0, key + 1, 2), 0);
        }
        due(x.jog(0, 1, 0), 1);
        due(x.jog(0, 0, 2), 1);
        due(x.jog(0, 2130, 2), 1);
        due(x.jog(0, 2131, 0), 1);
        due(x.jog(1, x.key(216000, 0, 1), 2), 1);
        due(x.jog(1, x.key(216000, 0, 1), 0), 0);
        due(x.jog(1, x.key(223200, 0, 1), 2), 0);

        x = told(23, "the ROW to that side (0 north, 2 south) has another number of SHEETS, 1, else 0");
        due(x.jog(0, 0, 0), 0);
        due(x.jog(0, 2131, 2), 0);
        due(x.jog(4, 545281, 2), 0);

        x = told(23, "NONE: no such ones");
        due(x.jog(0, 45, 1), NONE);
        due(x.jog(0, 45, 3), NONE);
        due(x.jog(0, 45, -1), NONE);
        due(x.jog(0, 45, 4), NONE);
        due(x.jog(0, -1, 0), NONE);
        due(x.jog(0, 2132, 0), NONE);
        due(x.jog(-1, 0, 0), NONE);
        due(x.jog(5, 0, 0), NONE);
    }

    private static void promise24() {
        SheetNames x = told(24, "i NONE: how many; else KEY of the i-th (by ROWS, in a ROW from w eastwards; -2: not so many)");
        dueRow(box(x, -1, 14400, 1295999, 0, 0), 1005, 946, 1065, 1006, 1125, 1066);
        dueRow(box(x, 316799, 316800, 1209600, 0, 0), 0, 15, 1);
        dueRow(box(x, -316801, -316800, 0, 0, 0), 2116, 2131);
        due(x.box(0, 0, 0, 0, 0, 0), 1006);
        due(x.box(0, 0, 0, 0, 0, 1), -2);
        due(x.box(0, 0, 0, 0, 0, MOST), -2);
        due(x.box(0, 0, 21605, 21604, 0, 0), 1007);
        due(x.box(0, 0, 21605, 21604, 0, 59), 1006);
        due(x.box(0, 0, 21605, 21604, 0, 60), -2);

        x = told(24, "SHEETS of a LEVEL in a BOX");
        for (int level = 0; level <= 4; level++) {
            int many = x.level(level, 0);
            due(x.box(-324000, 324000, 0, 1295999, level, NONE), many);
            due(x.box(-324000, 324000, 0, 1295999, level, 0), 0);
            due(x.box(-324000, 324000, 0, 1295999, level, many - 1), many - 1);
            due(x.box(-324000, 324000, 0, 1295999, level, many), -2);
        }

        x = told(24, "NONE: no such ones");
        due(x.box(0, 0, 0, 0, 0, -2), NONE);
        due(x.box(0, 0, 0, 0, 0, LEAST), NONE);
        due(x.box(1, 0, 0, 0, 0, 99), NONE);
        due(x.box(-324001, 0, 0, 0, 0, 0), NONE);
        due(x.box(0, 324001, 0, 0, 0, 0), NONE);
        due(x.box(0, 0, -1, 0, 0, 0), NONE);
        due(x.box(0, 0, 1296000, 0, 0, 0), NONE);
        due(x.box(0, 0, 0, -1, 0, 0), NONE);
        due(x.box(0, 0, 0, 1296000, 0, 0), NONE);
        due(x.box(0, 0, 0, 0, -1, 0), NONE);
        due(x.box(0, 0, 0, 0, 5, 0), NONE);
    }

    private static void promise25() {
        SheetNames x = told(25, "i NONE: how many SHEETS");
        due(x.cover(0, 14399, 0, 21599, 0, NONE), 1);
        due(x.cover(0, 14399, 0, 21600, 1, NONE), 3);
        due(x.cover(0, 14399, 5, 4, 1, NONE), 60);

        x = told(25, "-2: the SHEETS of the LEVEL in the BOX are more than 4000");
        cut(x, 6, 4, 6, 1);
        due(x.box(284800, 316799, 0, 1079999, 2, NONE), 4000);
        due(x.cover(284800, 316799, 0, 1079999, 2, 0), 1);
        due(x.cover(284800, 316800, 0, 1079999, 2, NONE), -2);
        due(x.cover(284800, 316800, 0, 1079999, 2, 0), -2);
        due(x.cover(284800, 316800, 0, 1079999, 2, MOST), -2);
        due(x.cover(-324000, 324000, 0, 1295999, 0, NONE), 2132);

        x = told(25, "(by LEVELS, then KEYS)");
        dueRow(cover(x, 0, 14399, 1285200, 21599, 1), 1006, WEIGHT + 4140, WEIGHT + 4260);
        dueRow(cover(x, 0, 14399, 1285200, 0, 1), WEIGHT + 4021, WEIGHT + 4140, WEIGHT + 4141, WEIGHT + 4260);
        dueRow(cover(x, 316799, 324000, 5, 10, 1), 0, WEIGHT + 1);
        dueRow(cover(x, 0, 899, 0, 0, 4), 4 * WEIGHT + x.key(0, 0, 4));

        x = told(25, "(-3: not so many)");
        due(x.cover(0, 14399, 0, 21599, 1, 0), 1006);
        due(x.cover(0, 14399, 0, 21599, 1, 1), -3);
        due(x.cover(0, 14399, 0, 21600, 1, 2), WEIGHT + 4143);
        due(x.cover(0, 14399, 0, 21600, 1, 3), -3);
        due(x.cover(0, 0, 0, 0, 0, MOST), -3);

        x = told(25, "NONE: no such ones");
        due(x.cover(0, 0, 0, 0, 0, -2), NONE);
        due(x.cover(-324000, 324000, 0, 1295999, 4, LEAST), NONE);
        due(x.cover(1, 0, 0, 0, 0, 0), NONE);
        due(x.cover(-324001, 0, 0, 0, 0, 0), NONE);
        due(x.cover(0, 324001, 0, 0, 0, 0), NONE);
        due(x.cover(0, 0, -1, 0, 0, 0), NONE);
        due(x.cover(0, 0, 0, 1296000, 0, 0), NONE);
        due(x.cover(0, 0, 0, 0, -1, 0), NONE);
        due(x.cover(0, 0, 0, 0, 5, 0), NONE);
    }

    private static void promise26() {
        SheetNames x = told(26, "in the BOX from the lower of both LATS of their middles to the higher one");
        due(x.between(0, 946, 1066), 3);
        due(x.between(0, 1066, 946), 3);
        due(x.between(0, 0, 2131), 46);
        due(x.between(0, 2131, 0), 46);

        x = told(26, "from LON of the middle of the first eastwards to that of the second");
        due(x.between(0, 1006, 1006), 1);
        due(x.between(0, 1006, 1065), 60);
        due(x.between(0, 1065, 1006), 2);
        due(x.between(0, 1007, 1006), 60);
        due(x.between(0, 0, 2), 3);
        due(x.between(0, 2, 0), 16);
        due(x.between(0, 0, 0), 1);

        x = told(26, "NONE: no such ones");
        due(x.between(0, -1, 0), NONE);
        due(x.between(0, 2132, 0), NONE);
        due(x.between(0, 0, 2132), NONE);
        due(x.between(-1, 0, 0), NONE);
        due(x.between(5, 0, 0), NONE);
    }

    private static void promise27() {
        SheetNames x = told(27, "(by LON; a CAP goes round): 1, narrower: -1, else 0");
        due(x.wider(0, 0, 1), 1);
        due(x.wider(0, 1, 0), -1);
        due(x.wider(0, 0, 2131), 0);
        due(x.wider(0, 45, 46), 1);
        due(x.wider(0, 46, 45), -1);
        due(x.wider(0, 165, 166), 1);
        due(x.wider(0, 1966, 1965), 1);
        due(x.wider(0, 2086, 2085), 1);
        due(x.wider(0, 1, 2130), 0);
        due(x.wider(4, 545281, 545280), 1);

        x = told(27, "-1000000: no such ones");
        due(x.wider(0, -1, 0), NO_NUMBER);
        due(x.wider(0, 0, 2132), NO_NUMBER);
        due(x.wider(-1, 0, 0), NO_NUMBER);
        due(x.wider(5, 0, 0), NO_NUMBER);
    }

    private static void promise28() {
        SheetNames x = told(28, "byte by byte (what ends sooner is ahead): -1, 0, 1");
        due(x.before(0, 1006, 1015), -1);
        due(x.before(0, 1015, 1006), 1);
        due(x.before(0, 1015, 1007), -1);
        due(x.before(0, 77, 77), 0);
        due(x.before(0, 0, 2131), -1);
        due(x.before(0, 0, 1), 1);
        due(x.before(0, 0, 0), 0);
        due(x.before(1, 4021, x.key(14399, 194400, 1)), -1);
        x.cut(1, 4, 4);
        due(x.before(1, x.key(14399, 0, 1), x.key(7199, 5400, 1)), -1);
        due(x.before(1, x.key(14399, 5400, 1), x.key(7199, 5400, 1)), 1);

        x = told(28, "-1000000: no such ones");
        due(x.before(0, -1, 0), NO_NUMBER);
        due(x.before(0, 0, 2132), NO_NUMBER);
        due(x.before(-1, 0, 0), NO_NUMBER);
        due(x.before(5, 0, 0), NO_NUMBER);
    }

    private static void promise29() {
        SheetNames x = told(29, "to the north, the east (below 0: south, west) of a PLACE");
        due(x.moved(0, 0, 14399, 0, 0), 1006);
        due(x.moved(0, 0, 14400, 0, 0), 946);
        due(x.moved(0, 0, -1, 0, 0), 1066);
        due(x.moved(0, 0, 0, 21600, 0), 1007);
        due(x.moved(0, 0, 0, -1, 0), 1065);
        due(x.moved(0, 0, 0, LEAST, 0), 1065);
        due(x.moved(0, 1, 0, MOST - 1, 0), 1006);

        x = told(29, "-2: LAT and the one, LON and the other together are no int");
        due(x.moved(1, 0, MOST, 0, 0), -2);
        due(x.moved(-1, 0, LEAST, 0, 0), -2);
        due(x.moved(0, 1, 0, MOST, 0), -2);
        due(x.moved(0, 0, 0, MOST, 0), 1006);
        due(x.moved(324000, 0, MOST, 0, 0), -2);
        due(x.moved(324000, 1, 1, MOST, 0), -2);

        x = told(29, "-3: it would be beyond a pole");
        due(x.moved(323999, 0, 1, 0, 0), 0);
        due(x.moved(323999, 0, 2, 0, 0), -3);
        due(x.moved(-323999, 0, -1, 0, 0), 2131);
        due(x.moved(-323999, 0, -2, 0, 0), -3);
        due(x.moved(-324000, 0, 648000, 0, 0), 0);
        due(x.moved(-324000, 0, 648001, 0, 0), -3);
        due(x.moved(1, 0, MOST - 1, 0, 0), -3);
        due(x.moved(-1, 0, LEAST + 1, 0, 0), -3);

        x = told(29, "NONE: no such ones");
        due(x.moved(324001, 0, -1, 0, 0), NONE);
        due(x.moved(-324001, 0, 1, 0, 0), NONE);
        due(x.moved(0, -1, 0, 1, 0), NONE);
        due(x.moved(0, 1296000, 0, -1, 0), NONE);
        due(x.moved(0, 0, 0, 0, -1), NONE);
        due(x.moved(1, 1, MOST, MOST, 5), NONE);
    }
}
