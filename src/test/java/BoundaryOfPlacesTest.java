/** The boundary cases of the terms of part 1 (PLACES, SHEETS, NAMES, texts) and of promises 1 to 14. */
public final class BoundaryOfPlacesTest extends Sentences {
    private static final int NO_NUMBER = -1000000;
    private static final long NO_EDGE = Long.MIN_VALUE;

    public static void main(String[] args) {
        readDocument();
        places();
        bandsAndZones();
        cuts();
        sheetsHaveTheirEdges();
        names();
        texts();
        faultOne();
        faultTwo();
        faultThree();
        promise1();
        promise2();
        promise3();
        promise4();
        promise5();
        promise6();
        promise7();
        promise8();
        promise9();
        promise10();
        promises11And12();
        promise13();
        promise14();
        end(TERMS, 14);
    }

    // ---- terms

    private static void places() {
        SheetNames x = told(TERMS, "A PLACE: LAT -324000 to 324000");
        due(x.key(324000, 0, 0), 0);
        due(x.key(324001, 0, 0), NONE);
        due(x.key(-324000, 0, 0), 2131);
        due(x.key(-324001, 0, 0), NONE);
        due(x.key(MOST, 0, 0), NONE);
        due(x.key(LEAST, 0, 0), NONE);

        x = told(TERMS, "LON 0 to 1295999");
        due(x.key(0, 0, 0), 1006);
        due(x.key(0, -1, 0), NONE);
        due(x.key(0, 1295999, 0), 1065);
        due(x.key(0, 1296000, 0), NONE);
        due(x.key(0, MOST, 0), NONE);
        due(x.key(0, LEAST, 0), NONE);

        x = told(TERMS, "going round at 1296000");
        due(x.moved(0, 1295999, 0, 1, 0), 1006);
        due(x.moved(0, 0, 0, -1, 0), 1065);
        due(x.moved(0, 0, 0, 1296000, 0), 1006);
        due(x.moved(0, 0, 0, -1296000, 0), 1006);
        due(x.moved(0, 1295999, 0, 1295999, 0), 1065);
        due(x.moved(0, 0, 0, -1295999, 0), 1006);
    }

    private static void bandsAndZones() {
        SheetNames x = told(TERMS, "BANDS -22 to 21");
        due(x.at(0, x.key(316799, 0, 0), 3), 21);
        due(x.at(0, x.key(-316800, 0, 0), 3), -22);

        x = told(TERMS, "BAND b has LAT from 14400 b on, 14400 high (its south edge is its own, its north edge is not)");
        for (int band = -22; band <= 21; band++) {
            due(x.at(0, x.key(14400 * band, 0, 0), 3), band);
            due(x.at(0, x.key(14400 * band + 14399, 0, 0), 3), band);
        }

        x = told(TERMS, "From LAT 316800 on is THE NORTH CAP (324000 is in it)");
        for (int level = 0; level <= 4; level++) {
            due(x.key(324000, 1295999, level), 0);
            due(x.key(316800, 0, level), 0);
            due(x.key(316799, 0, level), 1);
        }

        x = told(TERMS, "below LAT -316800 THE SOUTH CAP");
        for (int level = 0; level <= 4; level++) {
            int last = x.level(level, 0) - 1;
            due(x.key(-324000, 0, level), last);
            due(x.key(-316801, 1295999, level), last);
            due(x.key(-316800, 1295999, level), last - 1);
        }

        x = told(TERMS, "ZONES of a BAND: 60 for b -15 to 14, 30 for -19 to -16 and 15 to 18, 15 for others");
        int[] ends = {-22, 15, -20, 15, -19, 30, -16, 30, -15, 60, 14, 60, 15, 30, 18, 30, 19, 15, 21, 15};
        for (int i = 0; i < ends.length; i += 2) {
            due(x.at(0, x.key(14400 * ends[i], 0, 0), 2), ends[i + 1]);
        }

        x = told(TERMS, "of equal width, numbered from LON 0 on, from 0");
        int[] widths = {0, 21600, 15, 43200, -16, 43200, 19, 86400, -22, 86400};
        for (int i = 0; i < widths.length; i += 2) {
            int lat = 14400 * widths[i];
            due(x.at(0, x.key(lat, 0, 0), 4), 0);
            due(x.at(0, x.key(lat, widths[i + 1] - 1, 0), 4), 0);
            due(x.at(0, x.key(lat, widths[i + 1], 0), 4), 1);
            due(x.at(0, x.key(lat, 1295999, 0), 4), 1296000 / widths[i + 1] - 1);
        }
    }

    private static void cuts() {
        SheetNames x = told(TERMS, "is cut into r rows and c columns (1 to 6 each");
        due(x.cut(1, 1, 1), 2132);
        due(x.cut(1, 6, 6), 76682);
        due(x.cut(1, 0, 1), NONE);
        due(x.cut(1, 7, 1), NONE);
        due(x.cut(1, 1, 0), NONE);
        due(x.cut(1, 1, 7), NONE);
        due(x.cut(1, LEAST, 1), NONE);
        due(x.cut(1, 1, MOST), NONE);
        due(x.level(1, 0), 76682);

        x = told(TERMS, "2 and 2 at first");
        for (int level = 1; level <= 4; level++) {
            due(x.level(level, 2), 2);
            due(x.level(level, 3), 2);
        }

        x = told(TERMS, "all of equal height, width");
        x.cut(1, 3, 2);
        for (int row = 0; row < 3; row++) {
            int key = x.key(4800 * row + 4799, 10800, 1);
            due(x.edge(1, key, 0), 4800 * row);
            due(x.edge(1, key, 2), 4800 * row + 4800);
            due(x.edge(1, key, 4), 10800);
            due(x.edge(1, key, 6), 21600);
        }

        x = told(TERMS, "a CAP stays whole (it is a SHEET of each LEVEL)");
        cut(x, 6, 6, 2, 2);
        for (int level = 0; level <= 4; level++) {
            int last = x.level(level, 0) - 1;
            due(x.child(0, 0, level, NONE), 1);
            due(x.child(0, 2131, level, NONE), 1);
            due(x.child(0, 2131, level, 0), last);
            due(x.key(316800, 1295999, level), 0);
            due(x.key(-316801, 0, level), last);
            due(x.parent(level, last, 0), 2131);
        }
    }

    private static void sheetsHaveTheirEdges() {
        SheetNames x = told(TERMS, "A SHEET has its south and its west edge, not its north, not its east one");
        due(x.key(7199, 10799, 1), 4141);
        due(x.key(7200, 10799, 1), 4021);
        due(x.key(7199, 10800, 1), 4142);
        due(x.key(7200, 10800, 1), 4022);
        due(x.key(-7200, 0, 1), 4261);
        due(x.key(-7201, 0, 1), 4381);

        x = told(TERMS, "so each PLACE lies in one SHEET of each LEVEL");
        cut(x, 1, 6, 1, 6, 1, 6, 1, 6);
        int west = x.key(0, 0, 4);
        int[] lons = {16, 0, 17, 1, 33, 1, 34, 2, 49, 2, 50, 3};
        for (int i = 0; i < lons.length; i += 2) {
            due(x.key(0, lons[i], 4), west + lons[i + 1]);
        }
        due(x.key(0, 1295984, 4), west + 60 * 1296 - 1);
        due(x.key(0, 1295983, 4), west + 60 * 1296 - 2);

        x = told(TERMS, "so each PLACE lies in one SHEET of each LEVEL");
        cut(x, 6, 1, 6, 1, 6, 1, 6, 1);
        int equator = x.key(0, 0, 4);
        int[] lats = {11, 0, 12, -1, 22, -1, 23, -2, -1, 1, -11, 1, -12, 2, -22, 2, -23, 3, 14388, -1294, 14389, -1295};
        for (int i = 0; i < lats.length; i += 2) {
            due(x.key(lats[i], 0, 4), equator + 60 * lats[i + 1]);
        }
        due(x.key(316788, 0, 4), 16);
        due(x.key(316789, 0, 4), 1);
        due(x.key(-316789, 0, 4), x.level(4, 0) - 1 - 15);
        due(x.key(-316788, 0, 4), x.level(4, 0) - 1 - 30);
    }

    private static void names() {
        SheetNames x = told(TERMS, "NAME: N or S; a letter A to V (A the BAND at the equator, and so on towards the pole;"
                + " of BAND b below 0 that of -1 - b)");
        dueText(name(x, 0, x.key(0, 0, 0)), "NA1");
        dueText(name(x, 0, x.key(14400, 0, 0)), "NB1");
        dueText(name(x, 0, x.key(316799, 0, 0)), "NV1");
        dueText(name(x, 0, x.key(-1, 0, 0)), "SA1");
        dueText(name(x, 0, x.key(-14400, 0, 0)), "SA1");
        dueText(name(x, 0, x.key(-14401, 0, 0)), "SB1");
        dueText(name(x, 0, x.key(-316800, 0, 0)), "SV1");

        x = told(TERMS, "the ZONE's number and 1");
        dueText(name(x, 0, x.key(0, 194399, 0)), "NA9");
        dueText(name(x, 0, x.key(0, 194400, 0)), "NA10");
        dueText(name(x, 0, x.key(0, 1295999, 0)), "NA60");
        dueText(name(x, 0, x.key(216000, 1295999, 0)), "NP30");
        dueText(name(x, 0, x.key(-288001, 1295999, 0)), "SU15");

        x = told(TERMS, "rows from the north, in a row from the west, from 1 on");
        x.cut(1, 2, 3);
        dueText(name(x, 1, x.key(14399, 0, 1)), "NA1-1");
        dueText(name(x, 1, x.key(14399, 7200, 1)), "NA1-2");
        dueText(name(x, 1, x.key(7200, 21599, 1)), "NA1-3");
        dueText(name(x, 1, x.key(7199, 0, 1)), "NA1-4");
        dueText(name(x, 1, x.key(-7201, 21599, 1)), "SA1-6");
        x.cut(1, 6, 6);
        dueText(name(x, 1, x.key(14399, 0, 1)), "NA1-1");
        dueText(name(x, 1, x.key(0, 21599, 1)), "NA1-36");
        dueText(name(x, 2, x.key(0, 21599, 2)), "NA1-36-4");

        x = told(TERMS, "NZ, SZ: the CAPS (at each LEVEL)");
        for (int level = 0; level <= 4; level++) {
            dueText(name(x, level, 0), "NZ");
            dueText(name(x, level, x.level(level, 0) - 1), "SZ");
        }
    }

    private static void texts() {
        SheetNames x = told(TERMS, "A TEXT of a NAME: 1 to 40 bytes, no blanks");
        due(named(x, "N", 0), -1001);
        due(named(x, "NA1-01-01-01-01", 0), 4);
        due(named(x, " NA1", 0), -1000);
        due(named(x, "N A1", 0), -1001);
        due(named(x, "NA 1", 0), -1002);
        due(named(x, "NA1 ", 0), -1003);
        due(named(x, "NA1- 1", 0), -1004);
        due(named(x, "NZ ", 0), -1002);
        feed(x, "NA1-1-1-1-1xxxxxxxxxxxxxxxxxxxxxxxxxxxxx");
        due(x.named(40, 0), -1011);
        feed(x, "NA1-1-1-1-1xxxxxxxxxxxxxxxxxxxxxxxxxxxxxx");
        due(x.named(41, 0), NONE);
        due(x.named(0, 0), NONE);
        due(x.named(11, 0), 4);

        x = told(TERMS, "FAULTS, the first byte from the left that is wrong");
        due(named(x, "NA61-9-x", 0), -2002);
        due(named(x, "NA1-9-x", 0), -2004);
        due(named(x, "NA1-1x-9", 0), -1005);
        due(named(x, "xx99", 0), -1000);
        due(named(x, "Nx99", 0), -1001);
        due(named(x, "NA1-1-1-1-1x-", 0), -1011);
        due(named(x, "NA1-1-1-1-5-1", 0), -2010);

        x = told(TERMS, "(the end: at the length)");
        due(named(x, "N", 0), -1001);
        due(named(x, "NA", 0), -1002);
        due(named(x, "NA1-", 0), -1004);
        due(named(x, "NA60-4-", 0), -1007);
        due(named(x, "NA1-1-1-1-", 0), -1010);

        x = told(TERMS, "of one byte the least");
        due(named(x, "NA1-1-1-1-1-", 0), -3011);
        due(named(x, "NA1-1-1-1--", 0), -1010);
        due(named(x, "NA1-1-1-1-0-", 0), -2010);
        due(named(x, "NA1-1-1-1-001-", 0), -1012);
    }

    private static void faultOne() {
        SheetNames x = told(TERMS, "1 it can't stand there");
        String[] wrong = {"MA1", "OA1", "RA1", "TA1", "nA1", "ZA1", "1A1", "-A1"};
        for (String text : wrong) {
            due(named(x, text, 0), -1000);
        }
        String[] letters = {"NW1", "N@1", "Na1", "NY1", "N[1", "N11", "N-1"};
        for (String text : letters) {
            due(named(x, text, 0), -1001);
        }
        String[] digits = {"NA/", "NA:", "NA-", "NAA", "NA\u0000", "NA\u00b1", "NA\u00ff"};
        for (String text : digits) {
            due(named(x, text, 0), -1002);
        }
        String[] behind = {"NA1/", "NA1:", "NA1,", "NA1.", "NA1A", "NA1Z"};
        for (String text : behind) {
            due(named(x, text, 0), -1003);
        }
        due(named(x, "NA1--", 0), -1004);
        due(named(x, "NA1-:", 0), -1004);
        due(named(x, "NA1-/", 0), -1004);
        due(named(x, "NA1-1:", 0), -1005);
        due(named(x, "NA1-1-1-1-1 ", 0), -1011);
    }

    private static void faultTwo() {
        SheetNames x = told(TERMS, "2 a number that there is not");
        due(named(x, "NA60", 1), 1065);
        due(named(x, "NA61", 1), -2002);
        due(named(x, "NA0", 1), -2002);
        due(named(x, "NO60", 1), 225);
        due(named(x, "NP30", 1), 165);
        due(named(x, "NP31", 1), -2002);
        due(named(x, "SP31", 1), -2002);
        due(named(x, "NS31", 1), -2002);
        due(named(x, "NT15", 1), 45);
        due(named(x, "NT16", 1), -2002);
        due(named(x, "SV16", 1), -2002);
        due(named(x, "NA1-4", 0), 1);
        due(named(x, "NA1-5", 0), -2004);
        due(named(x, "NA1-0", 0), -2004);
        x.cut(2, 3, 5);
        due(named(x, "NA1-1-15", 0), 2);
        due(named(x, "NA1-1-16", 0), -2006);

        x = told(TERMS, "of 1 or 2 digits, noughts ahead may be");
        due(named(x, "NA01", 1), 1006);
        due(named(x, "NA1", 1), 1006);
        due(named(x, "NA10", 1), 1015);
        due(named(x, "NA00", 1), -2002);
        due(named(x, "NA01-03", 1), 4141);
        due(named(x, "NA1-00", 1), -2004);

        x = told(TERMS, "a third digit is 1 at it");
        due(named(x, "NA001", 1), -1004);
        due(named(x, "NA010", 1), -1004);
        due(named(x, "NA610", 1), -1004);
        due(named(x, "NA000", 1), -1004);
        due(named(x, "NA1-001", 1), -1006);
        due(named(x, "NA12-1-123", 1), -1009);
        due(named(x, "NA1-1-1-1-111-", 1), -1012);

        x = told(TERMS, "told when its digits end");
        due(named(x, "NA61", 1), -2002);
        due(named(x, "NA61-", 1), -2002);
        due(named(x, "NA61x", 1), -2002);
        due(named(x, "NA0", 1), -2002);
        due(named(x, "NA0x", 1), -2002);
        due(named(x, "NA0-1", 1), -2002);
        due(named(x, "NA1-9:", 1), -2004);

        x = told(TERMS, "at its first digit");
        due(named(x, "NA99", 1), -2002);
        due(named(x, "NA1-99", 1), -2004);
        due(named(x, "NA10-1-05", 1), -2007);
        due(named(x, "NA10-01-01-01-05", 1), -2014);
    }

    private static void faultThree() {
        SheetNames x = told(TERMS, "3 the - of a fifth piece");
        due(named(x, "NA1-1-1-1-1", 0), 4);
        due(named(x, "NA1-1-1-1-1-", 0), -3011);
        due(named(x, "NA1-1-1-1-1-1", 0), -3011);
        due(named(x, "NA10-01-1-1-1-9-9", 0), -3013);

        x = told(TERMS, "(CAPS have nothing behind them: 1.)");
        due(named(x, "NZ", 1), 0);
        due(named(x, "NZ-", 1), -1002);
        due(named(x, "NZ-1", 1), -1002);
        due(named(x, "NZ1", 1), -1002);
        due(named(x, "SZ", 1), 2131);
        due(named(x, "SZZ", 1), -1002);
        due(named(x, "SZ0", 1), -1002);
    }

    // ---- the promises

    private static void promise1() {
        SheetNames x = told(1, "CUTS as at first; THE STORE is empty");
        due(x.level(4, 0), 545282);
        due(x.count(0), 0);
        due(x.piece(0, 0), -2);
        due(x.undo(), NONE);
        for (int what = 0; what <= 6; what++) {
            due(x.count(what), 0);
        }
        x.cut(1, 3, 3);
        x.store(0, 5, 2000);
        x.keep();
        feed(x, "NA1");
        SheetNames y = new SheetNames();
        due(y.level(1, 2), 2);
        due(y.count(0), 0);
        due(y.count(1), 0);
        due(y.count(2), 0);
        due(x.level(1, 2), 3);
    }

    private static void promise2() {
        SheetNames x = told(2, "the highest of each int first");
        x.feed('N' << 24 | 'A' << 16 | '1' << 8 | '-', '3' << 24 | '-' << 16 | '4' << 8, 0, 0, 0);
        due(x.named(7, 1), x.key(0, 5400, 2));
        x.feed('N' << 24 | 'A' << 16 | '1' << 8 | 0xFF, 0, 0, 0, 0);
        due(x.named(4, 1), -1003);
        x.feed(0x80808080, -1, -1, -1, -1);
        due(x.named(20, 0), -1000);

        x = told(2, "Twenty bytes come behind the tape");
        due(x.feed(LEAST, MOST, 0, -1, 1), 20);
        feed(x, "NA1");
        due(x.count(1), 40);
        due(x.named(40, 1), -1000);
        feed(x, "between NA1-1-1-1-1 NA1-1-1-1-2");
        due(x.ask(31), 2);

        x = told(2, "NONE if that would be more than 200");
        feed(x, "NA7");
        for (int i = 2; i <= 10; i++) {
            due(x.feed(i, i, i, i, i), 20 * i);
        }
        due(x.feed('S' << 24, 0, 0, 0, 0), NONE);
        due(x.count(1), 200);
        due(x.named(3, 1), 1012);
        due(x.feed(0, 0, 0, 0, 0), 20);
    }

    private static void promise3() {
        SheetNames x = told(3, "CUTS of a LEVEL (1 to 4): SHEETS of that LEVEL then");
        due(x.cut(0, 1, 1), NONE);
        due(x.cut(5, 1, 1), NONE);
        due(x.cut(LEAST, 1, 1), NONE);
        due(x.cut(1, 1, 3), 6392);
        due(x.cut(4, 1, 1), 102242);

        x = told(3, "-2: THE STORE is not empty");
        x.store(0, 0, 2000);
        due(x.cut(1, 3, 3), -2);
        due(x.cut(1, 2, 2), -2);
        due(x.level(1, 2), 2);
        x.drop(0, 0);
        due(x.cut(1, 3, 3), 19172);

        x = told(3, "-3: SHEETS of LEVEL 4 would be more than 20000000");
        cut(x, 5, 5, 5, 5);
        due(x.cut(3, 3, 5), 19968752);
        due(x.level(4, 0), 19968752);
        due(x.cut(4, 1, 2), -3);
        cut(x, 4, 5, 4, 5, 4, 1);
        due(x.cut(4, 2, 3), -3);
        due(x.level(4, 2), 1);
        due(x.cut(1, 6, 6), 2130 * 36 + 2);
        due(x.cut(1, 4, 4), 2130 * 16 + 2);
        due(x.cut(3, 5, 6), -3);
        due(x.level(3, 0), 2130 * 16 * 20 * 4 + 2);

        x = told(3, "NONE: no such ones");
        x.store(0, 0, 2000);
        due(x.cut(1, 7, 1), NONE);
        due(x.cut(0, 1, 1), NONE);
        due(x.cut(1, 1, -1), NONE);
    }

    private static void promise4() {
        SheetNames x = told(4, "Of a LEVEL (0 to 4)");
        due(x.level(-1, 0), NONE);
        due(x.level(0, 0), 2132);
        due(x.level(4, 0), 545282);
        due(x.level(5, 0), NONE);
        due(x.level(LEAST, 1), NONE);
        due(x.level(MOST, 1), NONE);

        x = told(4, "(1 of LEVEL 0)");
        cut(x, 3, 5, 2, 2);
        due(x.level(0, 2), 1);
        due(x.level(0, 3), 1);
        due(x.level(1, 2), 3);
        due(x.level(1, 3), 5);

        x = told(4, "(all CUTS till there)");
        cut(x, 3, 5, 1, 2, 4, 1, 2, 6);
        int[] rows = {1, 3, 3, 12, 24};
        int[] columns = {1, 5, 10, 10, 60};
        for (int level = 0; level <= 4; level++) {
            due(x.level(level, 4), rows[level]);
            due(x.level(level, 5), columns[level]);
            due(x.level(level, 1), 44 * rows[level] + 2);
        }

        x = told(4, "NONE: no such ones");
        due(x.level(0, -1), NONE);
        due(x.level(0, 6), NONE);
        due(x.level(4, 5), 16);
    }

    private static void promise5() {
        SheetNames x = told(5, "NONE: no such ones");
        due(x.key(0, 0, -1), NONE);
        due(x.key(0, 0, 5), NONE);
        due(x.key(0, 0, 4), x.keyAt(4, 352, 0));
        due(x.key(324001, 0, 4), NONE);
        due(x.key(-324001, 0, 4), NONE);
        due(x.key(0, -1, 4), NONE);
        due(x.key(0, 1296000, 4), NONE);
    }

    private static void promise6() {
        SheetNames x = told(6, "i NONE: how many");
        due(x.name(0, 0, NONE), 2);
        due(x.name(0, 1006, NONE), 3);
        due(x.name(0, 1065, NONE), 4);
        due(x.name(4, x.key(0, 1295999, 4), NONE), 12);

        x = told(6, "-2: not so many");
        due(x.name(0, 1006, 2), '1');
        due(x.name(0, 1006, 3), -2);
        due(x.name(0, 0, 1), 'Z');
        due(x.name(0, 0, 2), -2);
        due(x.name(0, 0, MOST), -2);

        x = told(6, "NONE: no such ones");
        due(x.name(0, 1006, -2), NONE);
        due(x.name(0, 1006, LEAST), NONE);
        due(x.name(0, -1, NONE), NONE);
        due(x.name(0, 2132, 99), NONE);
        due(x.name(-1, 0, 0), NONE);
        due(x.name(5, 0, 0), NONE);
        due(x.name(4, 545282, 0), NONE);
        due(x.name(4, 545281, 0), 'S');
    }

    private static void promise7() {
        SheetNames x = told(7, "The NAME by the tape's first n bytes (1 to 40; empty then)");
        feed(x, "NA1-3-4 and so on, on");
        due(x.count(1), 40);
        due(x.named(5, 1), 4141);
        due(x.count(1), 0);
        feed(x, "NA1-3");
        due(x.named(3, 1), 1006);
        due(x.count(1), 0);
        feed(x, "X");
        due(x.named(1, 0), -1000);
        due(x.count(1), 0);

        x = told(7, "what 0 its LEVEL (of a CAP 0)");
        due(named(x, "NZ", 0), 0);
        due(named(x, "SZ", 0), 0);
        due(named(x, "NA1", 0), 0);
        due(named(x, "NA1-1-1-1-1", 0), 4);
        due(named(x, "SZ", 1), 2131);

        x = told(7, "a FAULT: -1000 times its number, less its place");
        due(named(x, "X", 1), -1000);
        due(named(x, "NA10-1-05", 0), -2007);
        due(named(x, "NA10-1-05", 1), -2007);
        due(named(x, "NA10-04-04-04-04-", 1), -3016);

        x = told(7, "NONE: no such ones, it has not so many (the tape stays)");
        due(x.named(1, 0), NONE);
        feed(x, "NA1");
        due(x.named(0, 0), NONE);
        due(x.named(-1, 0), NONE);
        due(x.named(LEAST, 0), NONE);
        due(x.named(41, 0), NONE);
        due(x.named(MOST, 0), NONE);
        due(x.named(21, 0), NONE);
        due(x.named(3, -1), NONE);
        due(x.named(3, 2), NONE);
        due(x.count(1), 20);
        due(x.count(3) + x.count(4), 0);
        due(x.named(20, 0), -1003);
        due(x.named(1, 0), NONE);
    }

    private static void promise8() {
        SheetNames x = told(8, "(of the last one of a ROW 1296000)");
        due(x.edge(0, 1065, 6), 1296000);
        due(x.edge(0, 1065, 7), 1);
        due(x.edge(0, 1064, 6), 1274400);
        due(x.edge(0, 15, 6), 1296000);
        cut(x, 1, 6, 1, 6, 1, 6, 1, 6);
        int last = x.key(0, 1295999, 4);
        due(x.edge(4, last, 6), 1296000);
        due(x.edge(4, last, 7), 1);
        due(x.edge(4, last - 1, 6), 3887950);
        due(x.edge(4, last - 1, 7), 3);

        x = told(8, "as a fraction in lowest terms, top (of 2 what + 0), bottom (2 what + 1): so what 0 to 7");
        cut(x, 6, 6, 6, 6, 3, 1);
        int[] south = {-400, 3, 0, 1, 0, 1, 600, 1};
        int[] north = {0, 1, 400, 3, 600, 1, 1200, 1};
        for (int what = 0; what <= 7; what++) {
            due(x.edge(3, x.key(-1, 0, 3), what), south[what]);
            due(x.edge(3, x.key(0, 600, 3), what), north[what]);
        }
        due(x.edge(3, x.key(-134, 0, 3), 0), -800);
        due(x.edge(3, x.key(-134, 0, 3), 1), 3);
        due(x.edge(3, x.key(-267, 0, 3), 0), -400);
        due(x.edge(3, x.key(-267, 0, 3), 1), 1);
        cut(x, 1, 6, 1, 6, 1, 6, 1, 6);
        int[] west = {0, 1, 14400, 1, 50, 3, 100, 3};
        for (int what = 0; what <= 7; what++) {
            due(x.edge(4, x.key(0, 17, 4), what), west[what]);
        }

        x = told(8, "Of a SHEET, what 0 its south edge, 1 its north edge, 2 its west edge, 3 its east edge");
        int[] northCap = {316800, 1, 324000, 1, 0, 1, 1296000, 1};
        int[] southCap = {-324000, 1, -316800, 1, 0, 1, 1296000, 1};
        for (int what = 0; what <= 7; what++) {
            due(x.edge(4, 0, what), northCap[what]);
            due(x.edge(4, 545281, what), southCap[what]);
        }
        due(x.edge(0, 1, 2), 316800);
        due(x.edge(0, 2130, 0), -316800);

        x = told(8, "Long.MIN_VALUE: no such ones");
        due(x.edge(0, 5, -1), NO_EDGE);
        due(x.edge(0, 5, 8), NO_EDGE);
        due(x.edge(0, -1, 0), NO_EDGE);
        due(x.edge(0, 2132, 0), NO_EDGE);
        due(x.edge(-1, 0, 0), NO_EDGE);
        due(x.edge(5, 0, 0), NO_EDGE);
    }

    private static void promise9() {
        SheetNames x = told(9, "cut down");
        cut(x, 6, 6, 6, 6, 3, 1);
        due(x.middle(3, x.key(0, 0, 3), 0), 66);
        due(x.middle(3, x.key(-1, 0, 3), 0), -67);
        due(x.middle(3, x.key(134, 0, 3), 0), 200);
        due(x.middle(3, x.key(-134, 0, 3), 0), -200);
        cut(x, 1, 6, 1, 6, 1, 6, 1, 6);
        due(x.middle(4, x.key(0, 0, 4), 1), 8);
        due(x.middle(4, x.key(0, 17, 4), 1), 25);
        due(x.middle(4, x.key(0, 34, 4), 1), 41);

        x = told(9, "of a CAP LAT 324000 or -324000, LON 0");
        for (int level = 0; level <= 4; level++) {
            int last = x.level(level, 0) - 1;
            due(x.middle(level, 0, 0), 324000);
            due(x.middle(level, 0, 1), 0);
            due(x.middle(level, last, 0), -324000);
            due(x.middle(level, last, 1), 0);
        }

        x = told(9, "-1000000: no such ones");
        due(x.middle(0, 5, -1), NO_NUMBER);
        due(x.middle(0, 5, 2), NO_NUMBER);
        due(x.middle(0, -1, 0), NO_NUMBER);
        due(x.middle(0, 2132, 0), NO_NUMBER);
        due(x.middle(-1, 0, 0), NO_NUMBER);
        due(x.middle(5, 0, 0), NO_NUMBER);
    }

    private static void promise10() {
        SheetNames x = told(10, "3 the BAND (100, -100: the CAPS)");
        for (int level = 0; level <= 4; level++) {
            due(x.at(level, 0, 3), 100);
            due(x.at(level, 1, 3), 21);
            due(x.at(level, x.level(level, 0) - 2, 3), -22);
            due(x.at(level, x.level(level, 0) - 1, 3), -100);
        }

        x = told(10, "4 the ZONE (of a CAP 0)");
        due(x.at(0, 0, 4), 0);
        due(x.at(3, 136321, 4), 0);
        due(x.at(0, 1006, 4), 0);
        due(x.at(2, x.key(0, 1295999, 2), 4), 59);

        x = told(10, "(of LEVEL 0: the ZONE's number and 1; 0: a CAP)");
        due(x.at(0, 1006, 5), 1);
        due(x.at(0, 1065, 5), 60);
        due(x.at(0, 0, 5), 0);
        due(x.at(4, 545281, 5), 0);
        due(x.at(1, 4021, 5), 1);
        due(x.at(1, 4142, 5), 4);
        due(x.at(4, x.key(7199, 10799, 4), 5), 2);

        x = told(10, "what 0 its ROW, 1 its place in the ROW, 2 how many the ROW has");
        int[] ofNorth = {0, 0, 1};
        int[] ofFirst = {1, 0, 30};
        int[] ofLast = {88, 29, 30};
        int[] ofSouth = {89, 0, 1};
        for (int what = 0; what <= 2; what++) {
            due(x.at(1, 0, what), ofNorth[what]);
            due(x.at(1, 1, what), ofFirst[what]);
            due(x.at(1, 8520, what), ofLast[what]);
            due(x.at(1, 8521, what), ofSouth[what]);
        }

        x = told(10, "-1000000: no such ones");
        due(x.at(0, 5, -1), NO_NUMBER);
        due(x.at(0, 5, 6), NO_NUMBER);
        due(x.at(0, -1, 0), NO_NUMBER);
        due(x.at(0, 2132, 0), NO_NUMBER);
        due(x.at(-1, 0, 0), NO_NUMBER);
        due(x.at(5, 0, 0), NO_NUMBER);
    }

    private static void promises11And12() {
        SheetNames x = told(11, "KEY of a ROW and a place in it");
        due(x.keyAt(1, 0, 0), 0);
        due(x.keyAt(1, 1, 0), 1);
        due(x.keyAt(1, 1, 29), 30);
        due(x.keyAt(1, 2, 0), 31);
        due(x.keyAt(1, 88, 29), 8520);
        due(x.keyAt(1, 89, 0), 8521);

        x = told(11, "NONE: no such ones");
        due(x.keyAt(1, 0, 1), NONE);
        due(x.keyAt(1, 89, 1), NONE);
        due(x.keyAt(1, 1, 30), NONE);
        due(x.keyAt(1, 1, -1), NONE);
        due(x.keyAt(1, -1, 0), NONE);
        due(x.keyAt(1, 90, 0), NONE);
        due(x.keyAt(1, MOST, MOST), NONE);
        due(x.keyAt(-1, 0, 0), NONE);
        due(x.keyAt(5, 0, 0), NONE);

        x = told(12, "KEY of the SHEET of a LEVEL up to its own (to, 0 to its LEVEL) in which a SHEET lies");
        due(x.parent(0, 1006, 0), 1006);
        due(x.parent(1, 4141, 1), 4141);
        due(x.parent(1, 4141, 0), 1006);
        due(x.parent(4, 545280, 0), 2130);
        due(x.parent(4, 545281, 0), 2131);
        due(x.parent(4, 545281, 3), 136321);
        due(x.parent(4, 1, 0), 1);
        due(x.parent(4, 0, 0), 0);

        x = told(12, "NONE: no such ones");
        due(x.parent(1, 4141, 2), NONE);
        due(x.parent(1, 4141, -1), NONE);
        due(x.parent(4, 0, 5), NONE);
        due(x.parent(1, -1, 0), NONE);
        due(x.parent(1, 8522, 0), NONE);
        due(x.parent(-1, 0, 0), NONE);
        due(x.parent(5, 0, 0), NONE);
    }

    private static void promise13() {
        SheetNames x = told(13, "SHEETS of a deeper LEVEL (to, its LEVEL to 4) in a SHEET");
        due(x.child(1, 4141, 1, NONE), 1);
        due(x.child(1, 4141, 1, 0), 4141);
        due(x.child(4, 77, 4, 0), 77);
        due(x.child(1, 4141, 4, NONE), 64);
        due(x.child(1, 4141, 0, NONE), NONE);
        due(x.child(1, 4141, 5, NONE), NONE);

        x = told(13, "i NONE: how many; else KEY of the i-th (by KEYS; -2: not so many)");
        x.cut(1, 3, 2);
        due(x.child(0, 1006, 1, NONE), 6);
        int[] lats = {14399, 14399, 9599, 9599, 4799, 4799};
        for (int i = 0; i < 6; i++) {
            due(x.child(0, 1006, 1, i), x.key(lats[i], i % 2 * 10800, 1));
        }
        due(x.child(0, 1006, 1, 6), -2);
        due(x.child(0, 1006, 1, MOST), -2);
        due(x.child(0, 0, 4, 0), 0);
        due(x.child(0, 0, 4, 1), -2);
        due(x.child(0, 2131, 1, 0), 2130 * 6 + 1);

        x = told(13, "NONE: no such ones");
        due(x.child(0, 1006, 1, -2), NONE);
        due(x.child(0, 1006, 1, LEAST), NONE);
        due(x.child(0, -1, 1, 0), NONE);
        due(x.child(0, 2132, 1, 99), NONE);
        due(x.child(-1, 0, 0, 0), NONE);
        due(x.child(5, 0, 5, 0), NONE);
    }

    private static void promise14() {
        SheetNames x = told(14, "The deepest LEVEL at which two PLACES lie in one SHEET");
        int[] north = {899, 4, 900, 3, 1799, 3, 1800, 2, 3599, 2, 3600, 1, 7199, 1, 7200, 0, 14399, 0};
        for (int i = 0; i < north.length; i += 2) {
            due(x.common(0, 0, north[i], 0), north[i + 1]);
        }
        int[] east = {1349, 4, 1350, 3, 2700, 2, 5400, 1, 10800, 0, 21599, 0};
        for (int i = 0; i < east.length; i += 2) {
            due(x.common(0, east[i], 0, 0), east[i + 1]);
        }
        due(x.common(5, 5, 5, 5), 4);

        x = told(14, "-2: at none");
        due(x.common(0, 0, 14400, 0), -2);
        due(x.common(0, 0, -1, 0), -2);
        due(x.common(0, 0, 0, 21600), -2);
        due(x.common(0, 0, 0, 1295999), -2);
        due(x.common(316800, 0, 316799, 0), -2);
        due(x.common(324000, 0, -324000, 0), -2);

        x = told(14, "(Of a CAP: 4.)");
        due(x.common(324000, 0, 316800, 1295999), 4);
        due(x.common(-324000, 1295999, -316801, 0), 4);

        x = told(14, "NONE: no such ones");
        due(x.common(324001, 0, 0, 0), NONE);
        due(x.common(0, -1, 0, 0), NONE);
        due(x.common(0, 0, -324001, 0), NONE);
        due(x.common(0, 0, 0, 1296000), NONE);
    }
}
