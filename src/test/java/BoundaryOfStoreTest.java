/** The boundary cases of the terms of part 3 (THE STORE, refused calls) and of promises 30 to 45. */
public final class BoundaryOfStoreTest extends Sentences {
    public static void main(String[] args) {
        readDocument();
        whatTheStoreHolds();
        refusedCalls();
        reasonsInOrder();
        questionsAreTaken();
        questionsAreAnswered();
        questionsWithFaults();
        promise31();
        promises32And33();
        promise34();
        promise35();
        promise36();
        promise37();
        promise38();
        promise39();
        promise40();
        promise41();
        promise42();
        promise43();
        promise44();
        promise45();
        end(30, 45);
    }

    // ---- terms

    private static void whatTheStoreHolds() {
        SheetNames x = told(TERMS, "up to 60 pieces");
        for (int i = 0; i < 60; i++) {
            due(x.store(0, 100 + i, 2000), i + 1);
        }
        due(x.store(0, 99, 2000), -2);
        due(x.count(0), 60);
        due(x.piece(0, 1), 100);
        due(x.piece(59, 1), 159);

        x = told(TERMS, "with a YEAR (1800 to 2100)");
        due(x.store(0, 5, 1799), NONE);
        due(x.store(0, 5, 1800), 1);
        due(x.store(0, 5, 2100), 1);
        due(x.store(0, 5, 2101), NONE);
        due(x.drop(0, 5), 2100);

        x = told(TERMS, "each SHEET once");
        due(x.store(0, 5, 1900), 1);
        due(x.store(0, 5, 1901), 1);
        due(x.store(0, 5, 1900), 1);
        due(x.store(1, 5, 1900), 2);
        due(x.store(1, 5, 1950), 2);
        due(x.drop(0, 5), 1900);
        due(x.drop(0, 5), -2);

        x = told(TERMS, "A PLACE is SHOWN by pieces whose SHEET it lies in");
        x.store(1, 4141, 1900);
        int[] in = {0, 0, 7199, 0, 0, 10799, 7199, 10799};
        int[] out = {7200, 0, -1, 0, 0, 10800, 0, 1295999};
        for (int i = 0; i < in.length; i += 2) {
            due(x.shown(in[i], in[i + 1], 0), 1);
            due(x.shown(out[i], out[i + 1], 0), 0);
        }

        x = told(TERMS, "(CUTS are told anew only while THE STORE is empty.");
        x.store(0, 0, 2000);
        due(x.cut(4, 1, 1), -2);
        x.drop(0, 0);
        due(x.cut(4, 1, 1), 136322);

        x = told(TERMS, "A CAP is stored as of LEVEL 0.)");
        for (int level = 0; level <= 4; level++) {
            due(x.store(level, 0, 1900 + level), 1);
            due(x.piece(0, 0), 0);
            due(x.piece(0, 1), 0);
            due(x.piece(0, 2), 1900 + level);
        }
        due(x.drop(3, 0), 1904);
        due(x.store(4, 545281, 1999), 1);
        due(x.piece(0, 0), 0);
        due(x.piece(0, 1), 2131);
        due(x.oldest(0, 0), 2131);
        due(x.oldest(4, 0), -2);
        due(x.shown(-324000, 0, 1), 0);
        due(x.drop(1, 8521), 1999);
        due(x.store(4, 2131, 1999), 1);
        due(x.piece(0, 0), 4);
    }

    private static String state(SheetNames x) {
        StringBuilder out = new StringBuilder();
        for (int what = 0; what <= 6; what++) {
            out.append(x.count(what)).append(' ');
        }
        for (int level = 1; level <= 4; level++) {
            out.append(x.level(level, 2)).append('x').append(x.level(level, 3)).append(' ');
        }
        for (int i = 0; i < x.count(0); i++) {
            out.append(x.piece(i, 0)).append(' ').append(x.piece(i, 1)).append(' ').append(x.piece(i, 2)).append(' ');
        }
        return out.toString();
    }

    private static void refusedCalls() {
        SheetNames x = told(TERMS, "A call that is refused (NONE, -2 to -9, false) changes nothing but the tape");
        cut(x, 2, 3);
        x.store(0, 1006, 1950);
        x.store(1, 7, 1990);
        x.keep();
        named(x, "NA0", 0);
        feed(x, "NA1");
        String before = state(x);
        dueText(before, "2 20 1 0 1 0 1 2x3 1x1 1x1 1x1 0 1006 1950 1 7 1990 ");
        due(x.cut(1, 3, 3), -2);
        due(x.cut(1, 7, 3), NONE);
        dueText(state(x), before);
        due(x.store(0, 5, 1799), NONE);
        due(x.store(0, 2132, 1900), NONE);
        due(x.store(0, 1006, 2101), NONE);
        dueText(state(x), before);
        due(x.drop(0, 5), -2);
        due(x.drop(0, -1), NONE);
        due(x.renew(0, 2101), NONE);
        due(x.renew(5, 2100), NONE);
        dueText(state(x), before);
        due(x.named(0, 0), NONE);
        due(x.named(3, 2), NONE);
        due(x.named(21, 0), NONE);
        due(x.ask(0), NONE);
        due(x.ask(21), NONE);
        dueText(state(x), before);
        due(x.lacks(0, 0, 0, 0, 0, 2101, 0), NONE);
        due(x.steps(4, 0, 12782), NONE);
        due(x.cover(1, 0, 0, 0, 0, 0), NONE);
        dueText(state(x), before);
        x.undo();
        due(x.undo(), NONE);
        dueText(state(x), "2 20 0 0 0 0 0 2x3 1x1 1x1 1x1 0 1006 1950 1 7 1990 ");

        x = told(TERMS, "A call that is refused (NONE, -2 to -9, false) changes nothing but the tape");
        for (int i = 0; i < 60; i++) {
            x.store(0, 2 * i, 1900);
        }
        due(x.store(0, 1, 1900), -2);
        due(x.store(1, 0, 1901), 60);
        due(x.store(1, 2, 1901), -2);
        due(x.years(0, 1900, 0), 59);
        for (int i = 0; i < 60; i++) {
            due(x.piece(i, 1), 2 * i);
        }

        x = told(TERMS, "A call that is refused (NONE, -2 to -9, false) changes nothing but the tape");
        cut(x, 5, 5, 5, 5, 3, 5);
        due(x.cut(4, 1, 2), -3);
        due(x.cut(4, 6, 6), -3);
        dueText(state(x), "0 0 0 0 0 0 0 5x5 5x5 3x5 1x1 ");
        for (int i = 0; i < 10; i++) {
            x.feed(i, i, i, i, i);
        }
        for (int i = 0; i < 8; i++) {
            x.keep();
        }
        due(x.feed(7, 7, 7, 7, 7), NONE);
        due(x.keep(), NONE);
        dueText(state(x), "0 200 8 0 0 0 0 5x5 5x5 3x5 1x1 ");

        x = told(TERMS, "(a QUESTION that was read without a FAULT is counted, whatever ask() tells)");
        due(ask(x, "north NZ"), -2);
        due(ask(x, "above NA1"), -2);
        due(ask(x, "steps NA1 NA1-1"), -2);
        due(ask(x, "between NZ NA1-1"), -2);
        due(ask(x, "steps NA1-1-1 NA1-1-1"), -3);
        due(x.count(3), 5);
        due(x.count(4), 0);
        due(x.count(1), 0);
        due(x.ask(5), NONE);
        due(x.count(3), 5);
    }

    private static void reasonsInOrder() {
        SheetNames x = told(TERMS, "Of several reasons NONE comes first, then -2, and so on (but in way())");
        due(x.moved(324000, 1, 1, MOST, 0), -2);
        due(x.moved(324000, 1, 1, MOST, 5), NONE);
        due(x.steps(2, 0, 34082), NONE);
        due(x.way(2, 0, 34082, 99), NONE);
        due(x.way(2, 0, 0, 99), -3);
        due(x.cover(-324000, 324000, 0, 1295999, 1, MOST), -2);
        due(x.cover(-324000, 324000, 0, 1295999, 1, -2), NONE);
        due(x.lacks(-324000, 324000, 0, 1295999, 1, 2000, MOST), -2);
        due(x.lacks(-324000, 324000, 0, 1295999, 1, 2101, MOST), NONE);
        due(x.piece(5, 3), NONE);
        due(x.shown(0, 0, 3), NONE);
        due(x.oldest(0, 3), NONE);
        due(x.years(0, 2101, 1), NONE);
        due(ask(x, "steps NA1-1-1 NA1-1"), -2);
        for (int i = 0; i < 60; i++) {
            x.store(0, i, 1900);
        }
        due(x.store(0, 77, 2101), NONE);
        due(x.cut(4, 6, 6), -2);
        due(x.cut(4, 6, 7), NONE);
    }

    // ---- questions

    private static void questionsAreTaken() {
        SheetNames x = told(30, "A QUESTION by the tape's first n bytes (1 to 100; empty then)");
        feed(x, "north NA1-3 and more behind it");
        due(x.ask(9), 946);
        due(x.count(1), 0);
        feed(x, "X");
        due(x.ask(1), -1001);
        due(x.count(1), 0);
        feed(x, "between NA01-01-01-01-01 NA01-01-01-01-02xxxxxxxxxxxxxxxxxxxxxxxxxxxxxxxxxxxxxxxxxxxxxxxxxxxxxxxxxxxx");
        due(x.count(1), 120);
        due(x.ask(100), -1041);
        feed(x, "between NA01-01-01-01-01 NA01-01-01-01-02xxxxxxxxxxxxxxxxxxxxxxxxxxxxxxxxxxxxxxxxxxxxxxxxxxxxxxxxxxxx");
        due(x.ask(101), NONE);
        due(x.ask(41), 2);

        x = told(30, "NONE: no such n, it has not so many (the tape stays)");
        due(x.ask(1), NONE);
        feed(x, "north NA1");
        due(x.ask(0), NONE);
        due(x.ask(-1), NONE);
        due(x.ask(LEAST), NONE);
        due(x.ask(21), NONE);
        due(x.ask(101), NONE);
        due(x.ask(MOST), NONE);
        due(x.count(1), 20);
        due(x.count(3) + x.count(4), 0);
        due(x.ask(20), -1009);
        due(x.count(1), 0);

        x = told(30, "a word (all ahead of the first blank), one blank (32), a NAME");
        due(ask(x, "north NA1"), 946);
        due(ask(x, "north  NA1"), -1006);
        due(ask(x, " north NA1"), -1000);
        due(ask(x, "north\tNA1"), -1009);
        due(ask(x, "north NA1 "), -1009);
        due(ask(x, "north NA1 NA1"), -1009);
        due(ask(x, "north\u00a0NA1"), -1009);

        x = told(30, "behind steps and between another blank and a NAME");
        due(ask(x, "steps NA1 NA2"), 1);
        due(ask(x, "between NA1 NA2"), 2);
        due(ask(x, "steps NA1  NA2"), -1010);
        due(ask(x, "between NA1 NA2 "), -1015);
        due(ask(x, "steps NA1\tNA2"), -1009);
    }

    private static void questionsAreAnswered() {
        SheetNames x = told(30, "KEY of the first NEIGHBOUR (by KEYS) to that side at its LEVEL (a CAP's is 0), -2: none");
        due(ask(x, "north NA1"), 946);
        due(ask(x, "east NA60"), 1006);
        due(ask(x, "south NA1"), 1066);
        due(ask(x, "west NA1"), 1065);
        due(ask(x, "west NA1-3"), 4260);
        due(ask(x, "south NT15"), 74);
        due(ask(x, "north ST1"), 2056);
        due(ask(x, "north SV1"), 2101);
        due(ask(x, "north NV15-2"), 0);
        due(ask(x, "south SV15-4"), 8521);
        due(ask(x, "south NZ"), 1);
        due(ask(x, "north SZ"), 2116);
        due(ask(x, "north NZ"), -2);
        due(ask(x, "east NZ"), -2);
        due(ask(x, "west SZ"), -2);
        due(ask(x, "south SZ"), -2);

        x = told(30, "above: KEY of the SHEET of the LEVEL ahead in which it lies, -2: of LEVEL 0");
        due(ask(x, "above NA1-3"), 1006);
        due(ask(x, "above NA1-3-2"), 4141);
        due(ask(x, "above NA1-3-2-1-4"), x.key(6300, 6749, 3));
        due(ask(x, "above NA1"), -2);
        due(ask(x, "above NZ"), -2);
        due(ask(x, "above SZ"), -2);

        x = told(30, "steps, between: as of these calls, -2: of unlike LEVELS");
        due(ask(x, "steps NA1 NA1"), 0);
        due(ask(x, "steps NZ SZ"), 45);
        due(ask(x, "steps NA1-1 NA60-2"), 1);
        due(ask(x, "between NA60 NA1"), 2);
        due(ask(x, "between NA1 NA60"), 60);
        due(ask(x, "between NA1-1-1-1-1 NA1-1-1-1-1"), 1);
        due(ask(x, "steps NA1 NA1-1"), -2);
        due(ask(x, "between NA1-1 NA1"), -2);
        due(ask(x, "steps NZ NA1-1"), -2);
        due(ask(x, "steps NA1-1-1 NA1-1-1"), -3);
        due(ask(x, "steps NA1-1-1 NA1-1-1-1"), -2);
    }

    private static void questionsWithFaults() {
        SheetNames x = told(30, "A FAULT (as of named(), its place that in the QUESTION)");
        due(ask(x, "above NA61"), -2008);
        due(ask(x, "above NA1-5"), -2010);
        due(ask(x, "above XA1"), -1006);
        due(ask(x, "above NZ1"), -1008);
        due(ask(x, "above NA1-1-1-1-1-1"), -3017);
        due(ask(x, "above NA1-"), -1010);
        due(ask(x, "above "), -1006);
        due(ask(x, "east NA1-001"), -1011);

        x = told(30, "without a blank 1 at the end");
        due(ask(x, "north"), -1005);
        due(ask(x, "x"), -1001);
        due(ask(x, "NA1"), -1003);
        due(ask(x, "northNA1"), -1008);
        due(x.count(5), 4);

        x = told(30, "another word 1 at 0");
        String[] others = {"up NA1", "North NA1", "NORTH NA1", "nort NA1", "northe NA1", " NA1", "step NA1 NA1",
            "betweens NA1 NA1", "north\u0000 NA1", "up X", "NA1 ", "abovf NA1"};
        for (String text : others) {
            due(ask(x, text), -1000);
        }
        due(x.count(4), 12);
        due(x.count(5), 0);

        x = told(30, "(the first of two goes to the second blank, or to the end; the other NAME to the end)");
        due(ask(x, "steps NA NA1"), -1008);
        due(ask(x, "steps  NA1"), -1006);
        due(ask(x, "steps NA1- NA1"), -1010);
        due(ask(x, "steps NX NA1"), -1007);
        due(ask(x, "steps NA99 X"), -2008);
        due(ask(x, "steps NA1"), -1009);
        due(ask(x, "steps NA1-"), -1010);
        due(ask(x, "steps NA99"), -2008);
        due(ask(x, "steps "), -1006);
        due(ask(x, "between NA1 "), -1012);
        due(ask(x, "between NA1 NA1 "), -1015);
        due(ask(x, "between NA1 NA1 NA1"), -1015);
        due(ask(x, "between NA1 NA1-1-1-1-1-1"), -3023);
        due(ask(x, "between NA1 NA61"), -2014);
        due(ask(x, "between NZ NZ1"), -1013);
    }

    // ---- the store

    private static void promise31() {
        SheetNames x = told(31, "A piece comes to THE STORE, in place of one of that SHEET: how many there are then");
        due(x.store(1, 4141, 1990), 1);
        due(x.store(1, 4141, 1980), 1);
        due(x.piece(0, 2), 1980);
        due(x.store(0, 1006, 1990), 2);
        due(x.store(2, 1006, 1990), 3);
        due(x.store(4, 545281, 1990), 4);
        due(x.store(0, 2131, 1991), 4);

        x = told(31, "-2: there are 60 and none of that SHEET");
        for (int i = 0; i < 59; i++) {
            x.store(1, i + 1, 1900);
        }
        due(x.store(1, 0, 1900), 60);
        due(x.store(1, 60, 1900), -2);
        due(x.store(2, 1, 1900), -2);
        due(x.store(1, 59, 2000), 60);
        due(x.store(4, 0, 2000), 60);
        due(x.store(4, 545281, 2000), -2);
        x.drop(1, 59);
        due(x.store(4, 545281, 2000), 60);

        x = told(31, "NONE: no such ones");
        due(x.store(0, 5, 1799), NONE);
        due(x.store(0, 5, 2101), NONE);
        due(x.store(0, 5, 0), NONE);
        due(x.store(0, -1, 2000), NONE);
        due(x.store(0, 2132, 2000), NONE);
        due(x.store(-1, 0, 2000), NONE);
        due(x.store(5, 0, 2000), NONE);
        due(x.count(0), 0);
    }

    private static void promises32And33() {
        SheetNames x = told(32, "The piece of a SHEET is gone: its YEAR; -2: there is none");
        due(x.drop(0, 5), -2);
        x.store(0, 5, 1800);
        x.store(1, 5, 2100);
        due(x.drop(2, 5), -2);
        due(x.drop(0, 5), 1800);
        due(x.drop(0, 5), -2);
        due(x.drop(1, 5), 2100);
        due(x.count(0), 0);
        x.store(0, 2131, 1999);
        due(x.drop(4, 2131), -2);
        due(x.drop(4, 545281), 1999);

        x = told(32, "NONE: no such SHEET");
        x.store(0, 0, 2000);
        due(x.drop(0, -1), NONE);
        due(x.drop(0, 2132), NONE);
        due(x.drop(-1, 0), NONE);
        due(x.drop(5, 0), NONE);
        due(x.count(0), 1);

        x = told(33, "Piece i (by LEVELS, then KEYS), what 0 LEVEL, 1 KEY, 2 YEAR");
        x.store(2, 5, 1900);
        x.store(0, 9, 1901);
        x.store(0, 8, 1902);
        x.store(1, 8521, 1903);
        x.store(1, 7, 1904);
        int[] rows = {0, 8, 1902, 0, 9, 1901, 0, 2131, 1903, 1, 7, 1904, 2, 5, 1900};
        for (int i = 0; i < rows.length; i++) {
            due(x.piece(i / 3, i % 3), rows[i]);
        }
        x.drop(0, 9);
        due(x.piece(1, 1), 2131);
        due(x.piece(3, 1), 5);

        x = told(33, "-2: not so many");
        due(x.piece(0, 0), -2);
        x.store(0, 5, 2000);
        due(x.piece(0, 2), 2000);
        due(x.piece(1, 2), -2);
        due(x.piece(MOST, 2), -2);
        for (int i = 0; i < 59; i++) {
            x.store(1, i + 1, 2000);
        }
        due(x.piece(59, 1), 59);
        due(x.piece(60, 1), -2);

        x = told(33, "NONE: no such ones");
        due(x.piece(-1, 0), NONE);
        due(x.piece(LEAST, 0), NONE);
        due(x.piece(0, -1), NONE);
        due(x.piece(0, 3), NONE);
    }

    private static void promise34() {
        SheetNames x = told(34, "what 0 how many, 1 the deepest LEVEL of one, 2 the latest YEAR of one");
        x.store(0, 1006, 1990);
        x.store(1, 4141, 1980);
        x.store(4, x.key(0, 0, 4), 1985);
        due(x.shown(0, 0, 0), 3);
        due(x.shown(0, 0, 1), 4);
        due(x.shown(0, 0, 2), 1990);
        due(x.shown(0, 1350, 0), 2);
        due(x.shown(0, 1350, 1), 1);
        due(x.shown(7200, 0, 0), 1);
        due(x.shown(7200, 0, 1), 0);

        x = told(34, "-2: by none (1, 2)");
        due(x.shown(0, 0, 0), 0);
        due(x.shown(0, 0, 1), -2);
        due(x.shown(0, 0, 2), -2);
        x.store(0, 1006, 1990);
        due(x.shown(14400, 0, 0), 0);
        due(x.shown(14400, 0, 1), -2);
        due(x.shown(0, 21600, 2), -2);
        due(x.shown(0, 21599, 2), 1990);

        x = told(34, "NONE: no such ones");
        due(x.shown(324001, 0, 0), NONE);
        due(x.shown(-324001, 0, 0), NONE);
        due(x.shown(0, -1, 0), NONE);
        due(x.shown(0, 1296000, 0), NONE);
        due(x.shown(0, 0, -1), NONE);
        due(x.shown(0, 0, 3), NONE);
    }

    private static void promise35() {
        SheetNames x = told(35, "those whose middle is SHOWN by no piece of that YEAR or later");
        dueRow(lacks(x, 0, 0, 1295999, 0, 0, 0), 1065, 1006);
        x.store(0, 1006, 1950);
        dueRow(lacks(x, 0, 0, 1295999, 0, 0, 1950), 1065);
        dueRow(lacks(x, 0, 0, 1295999, 0, 0, 1951), 1065, 1006);
        dueRow(lacks(x, 0, 0, 1295999, 0, 0, 0), 1065);
        x.store(2, x.key(7199, 10799, 2), 2000);
        dueRow(lacks(x, 0, 0, 0, 0, 0, 2000), 1006);
        x.store(2, x.key(7200, 10800, 2), 2000);
        dueRow(lacks(x, 0, 0, 0, 0, 0, 2001), 1006);
        due(x.lacks(0, 0, 0, 0, 0, 2000, NONE), 0);
        x.store(0, 0, 2100);
        dueRow(lacks(x, 316799, 324000, 0, 0, 3, 2100), 1);

        x = told(35, "-2: the SHEETS of the LEVEL in the BOX are more than 4000");
        cut(x, 6, 4, 6, 1);
        due(x.lacks(284800, 316799, 0, 1079999, 2, 0, NONE), 4000);
        due(x.lacks(284800, 316799, 0, 1079999, 2, 0, 3999), x.key(284800, 1079999, 2));
        due(x.lacks(284800, 316800, 0, 1079999, 2, 0, NONE), -2);
        due(x.lacks(284800, 316800, 0, 1079999, 2, 0, 0), -2);
        due(x.lacks(284800, 316800, 0, 1079999, 2, 0, 9999), -2);

        x = told(35, "(as of box(); -3: not so many)");
        dueRow(lacks(x, -1, 0, 1295999, 0, 0, 2000), 1065, 1006, 1125, 1066);
        due(x.lacks(-1, 0, 1295999, 0, 0, 2000, 4), -3);
        due(x.lacks(-1, 0, 1295999, 0, 0, 2000, MOST), -3);
        x.store(0, 1006, 2000);
        dueRow(lacks(x, -1, 0, 1295999, 0, 0, 2000), 1065, 1125, 1066);
        due(x.lacks(-1, 0, 1295999, 0, 0, 2000, 3), -3);
        due(x.lacks(0, 0, 0, 0, 0, 2000, 0), -3);

        x = told(35, "NONE: no such ones (YEAR 0 to 2100)");
        due(x.lacks(0, 0, 0, 0, 0, -1, NONE), NONE);
        due(x.lacks(0, 0, 0, 0, 0, 0, NONE), 1);
        due(x.lacks(0, 0, 0, 0, 0, 2100, NONE), 1);
        due(x.lacks(0, 0, 0, 0, 0, 2101, NONE), NONE);
        due(x.lacks(0, 0, 0, 0, 0, 0, -2), NONE);
        due(x.lacks(1, 0, 0, 0, 0, 0, 0), NONE);
        due(x.lacks(-324001, 0, 0, 0, 0, 0, 0), NONE);
        due(x.lacks(0, 324001, 0, 0, 0, 0, 0), NONE);
        due(x.lacks(0, 0, -1, 0, 0, 0, 0), NONE);
        due(x.lacks(0, 0, 0, 1296000, 0, 0, 0), NONE);
        due(x.lacks(0, 0, 0, 0, -1, 0, 0), NONE);
        due(x.lacks(0, 0, 0, 0, 5, 0, 0), NONE);
    }

    private static SheetNames withYears(SheetNames x) {
        x.store(0, 5, 1950);
        x.store(0, 7, 1800);
        x.store(1, 9, 2000);
        x.store(3, 1, 2100);
        return x;
    }

    private static void promise36() {
        SheetNames x = withYears(told(36, "Pieces with a YEAR from one to another one (0 to 2100)"));
        due(x.years(0, 2100, 0), 4);
        due(x.years(1800, 2000, 0), 3);
        due(x.years(1801, 1999, 0), 1);
        due(x.years(1950, 1950, 0), 1);
        due(x.years(-1, 2100, 0), NONE);
        due(x.years(0, 2101, 0), NONE);
        due(x.years(2101, 0, 0), NONE);
        due(x.years(0, -1, 0), NONE);
        due(x.years(2100, 0, 0), 0);

        x = withYears(told(36, "1, 2 the earliest, the latest (-2: none)"));
        due(x.years(0, 2100, 1), 1800);
        due(x.years(0, 2100, 2), 2100);
        due(x.years(1801, 2099, 1), 1950);
        due(x.years(1801, 2099, 2), 2000);
        due(x.years(1951, 1999, 0), 0);
        due(x.years(1951, 1999, 1), -2);
        due(x.years(1951, 1999, 2), -2);
        due(x.years(2000, 1950, 1), -2);
        due(new SheetNames().years(0, 2100, 0), 0);
        due(new SheetNames().years(0, 2100, 1), -2);

        x = withYears(told(36, "NONE: no such ones"));
        due(x.years(0, 2100, -1), NONE);
        due(x.years(0, 2100, 3), NONE);
    }

    private static void promise37() {
        SheetNames x = withYears(told(37, "All pieces of a LEVEL with an earlier YEAR have that YEAR then: how many"));
        due(x.renew(0, 1800), 0);
        due(x.renew(0, 1950), 1);
        due(x.piece(1, 2), 1950);
        due(x.renew(0, 1951), 2);
        due(x.renew(0, 1951), 0);
        due(x.renew(1, 1999), 0);
        due(x.renew(2, 2100), 0);
        due(x.renew(4, 2100), 0);
        due(x.renew(0, 2100), 2);
        due(x.piece(2, 2), 2000);
        x.store(4, 545281, 1900);
        due(x.renew(4, 2000), 0);
        due(x.renew(0, 2000), 1);

        x = withYears(told(37, "NONE: no such ones"));
        due(x.renew(0, 1799), NONE);
        due(x.renew(0, 2101), NONE);
        due(x.renew(-1, 2000), NONE);
        due(x.renew(5, 2000), NONE);
    }

    private static void promise38() {
        SheetNames x = withYears(told(38, "(of like ones the least KEY), what 0 KEY, 1 YEAR, 2 how many of that LEVEL"
                + " have that YEAR"));
        due(x.oldest(0, 0), 7);
        due(x.oldest(0, 1), 1800);
        due(x.oldest(0, 2), 1);
        x.store(0, 3, 1800);
        x.store(1, 2, 1800);
        due(x.oldest(0, 0), 3);
        due(x.oldest(0, 2), 2);
        x.store(2, 8521, 1800);
        due(x.oldest(2, 2), 1);
        due(x.oldest(1, 0), 2);
        x.store(0, 2131, 1800);
        due(x.oldest(0, 2), 3);

        x = withYears(told(38, "-2: there is none of it"));
        due(x.oldest(2, 0), -2);
        due(x.oldest(2, 1), -2);
        due(x.oldest(4, 2), -2);
        x.drop(1, 9);
        due(x.oldest(1, 0), -2);

        x = withYears(told(38, "NONE: no such ones"));
        due(x.oldest(0, -1), NONE);
        due(x.oldest(0, 3), NONE);
        due(x.oldest(-1, 0), NONE);
        due(x.oldest(5, 0), NONE);
    }

    private static void promise39() {
        SheetNames x = told(39, "of the same YEAR or a later one are gone: how many");
        due(x.tidy(), 0);
        x.store(0, 1006, 1950);
        x.store(1, 4141, 1951);
        due(x.tidy(), 0);
        x.store(1, 4141, 1950);
        due(x.tidy(), 1);
        due(x.drop(1, 4141), -2);
        x.store(1, 4141, 1949);
        due(x.tidy(), 1);
        due(x.count(0), 1);

        x = told(39, "whose SHEET lies in another piece's SHEET (of a LEVEL above)");
        x.store(0, 1006, 1950);
        x.store(0, 1007, 1900);
        x.store(1, 4143, 1900);
        x.store(1, 4021, 1960);
        x.store(2, x.key(14399, 0, 2), 1955);
        x.store(4, x.key(0, 0, 4), 1950);
        x.store(4, x.key(-1, 0, 4), 1800);
        due(x.tidy(), 3);
        due(x.count(0), 4);
        due(x.piece(2, 1), 4021);
        due(x.piece(3, 1), x.key(-1, 0, 4));
        x.store(0, 0, 2000);
        x.store(1, 1, 1900);
        due(x.tidy(), 0);

        x = cut(told(39, "(of a LEVEL above)"));
        for (int level = 0; level <= 4; level++) {
            x.store(level, 1006, 1950);
        }
        due(x.count(0), 5);
        due(x.tidy(), 4);
        due(x.piece(0, 0), 0);
    }

    // ---- ways, rows

    private static void promise40() {
        SheetNames x = told(40, "in n (1 to 200) equal parts");
        due(x.changes(0, 0, 0, 21600, 0, 0), NONE);
        due(x.changes(0, 0, 0, 21600, 1, 0), 1);
        due(x.changes(0, 0, 0, 43200, 1, 0), 1);
        due(x.changes(0, 0, 0, 43200, 2, 0), 2);
        due(x.changes(0, 0, 0, 1295999, 200, 0), 59);
        due(x.changes(0, 0, 0, 21600, 201, 0), NONE);
        due(x.changes(0, 0, 0, 21600, -1, 0), NONE);

        x = told(40, "LAT and LON of each end of a part cut down from the exact one");
        due(x.changes(0, 0, -1, 0, 2, 0), 1);
        due(x.changes(1, 0, -1, 0, 4, 0), 1);
        due(x.changes(14399, 0, 14400, 0, 2, 0), 1);
        due(x.changes(0, 21599, 0, 21600, 200, 0), 1);
        due(x.changes(0, 21600, 0, 21599, 2, 0), 1);
        due(x.changes(14400, 21600, 14399, 21599, 1, 0), 1);
        due(x.changes(14400, 21600, 14398, 21601, 3, 0), 1);

        x = told(40, "eastwards, if LON of the second is not below that of the first, else westwards, never over LON 0");
        due(x.changes(0, 0, 0, 1295999, 60, 0), 59);
        due(x.changes(0, 1295999, 0, 0, 60, 0), 59);
        due(x.changes(0, 5, 14400, 5, 1, 0), 1);
        due(x.changes(0, 5, 14399, 5, 200, 0), 0);
        due(x.changes(324000, 0, -324000, 0, 45, 0), 45);

        x = told(40, "NONE: no such ones");
        due(x.changes(324001, 0, 0, 0, 1, 0), NONE);
        due(x.changes(0, -1, 0, 0, 1, 0), NONE);
        due(x.changes(0, 0, -324001, 0, 1, 0), NONE);
        due(x.changes(0, 0, 0, 1296000, 1, 0), NONE);
        due(x.changes(0, 0, 0, 0, 1, -1), NONE);
        due(x.changes(0, 0, 0, 0, 1, 5), NONE);
    }

    private static void promise41() {
        SheetNames x = told(41, "n PLACES (1 to 200) by DRAWS");
        due(x.drawn(12345, 0, 0), NONE);
        due(x.drawn(12345, 1, 0), 1);
        due(x.drawn(7, 199, 0), 193);
        due(x.drawn(7, 200, 0), 194);
        due(x.drawn(7, 201, 0), NONE);
        due(x.drawn(7, -1, 0), NONE);

        x = told(41, "(X is the lowest 16 bits of the seed at first)");
        due(x.drawn(0, 200, 0), 190);
        due(x.drawn(65536, 200, 0), 190);
        due(x.drawn(1, 200, 0), 192);
        due(x.drawn(-1, 200, 0), 188);
        due(x.drawn(65535, 200, 0), 188);
        due(x.drawn(MOST, 200, 0), 188);
        due(x.drawn(LEAST, 200, 2), 197);

        x = cut(told(41, "each LAT (a DRAW of 16384 times 39, less 319488)"), 3, 1, 3, 1);
        due(x.drawn(420, 200, 2), 200);
        due(x.drawn(471, 200, 2), 197);
        due(x.drawn(485, 200, 2), 197);
        due(x.drawn(1398, 200, 2), 198);
        due(x.drawn(2007, 200, 2), 196);

        x = told(41, "NONE: no such ones");
        due(x.drawn(0, 1, -1), NONE);
        due(x.drawn(0, 1, 5), NONE);
    }

    private static void promise42() {
        SheetNames x = told(42, "how many BANDS have at least one of them");
        due(x.bands(0, 0, 0), 0);
        due(x.bands(0, 2131, 2131), 0);
        due(x.bands(0, 0, 1), 1);
        due(x.bands(0, 1, 15), 1);
        due(x.bands(0, 1, 16), 2);
        due(x.bands(0, 15, 16), 2);
        due(x.bands(0, 2130, 2131), 1);
        due(x.bands(0, 0, 2131), 44);
        due(x.bands(1, 60, 61), 2);
        due(x.bands(1, 61, 120), 1);
        due(x.bands(4, 1, 545280), 44);

        x = told(42, "NONE: no such ones (from at most to)");
        due(x.bands(0, 5, 5), 1);
        due(x.bands(0, 6, 5), NONE);
        due(x.bands(0, -1, 5), NONE);
        due(x.bands(0, 0, 2132), NONE);
        due(x.bands(-1, 0, 0), NONE);
        due(x.bands(5, 0, 0), NONE);
    }

    // ---- kept

    private static void promise43() {
        SheetNames x = told(43, "3 how many texts were read without a FAULT (named(), ask()), 4 with one");
        due(named(x, "NZ", 0), 0);
        due(named(x, "NA1", 5), NONE);
        due(x.named(3, 0), 0);
        due(ask(x, "north NZ"), -2);
        due(x.count(3), 3);
        due(x.count(4), 0);
        due(named(x, "X", 0), -1000);
        due(ask(x, "up NA1"), -1000);
        due(x.named(1, 0), NONE);
        due(x.ask(0), NONE);
        due(x.count(3), 3);
        due(x.count(4), 2);

        x = told(43, "5 of these with one because a NAME ended too soon, or a QUESTION had no blank");
        String[] soon = {"N", "NA", "NA1-", "NA1-1-1-1-"};
        for (int i = 0; i < soon.length; i++) {
            named(x, soon[i], 0);
            due(x.count(5), i + 1);
        }
        String[] askedSoon = {"north", "north ", "north N", "steps NA NA1", "steps  NA1", "steps NA1", "between NA1 ", "x"};
        for (int i = 0; i < askedSoon.length; i++) {
            ask(x, askedSoon[i]);
            due(x.count(5), 5 + i);
        }
        String[] other = {"NA0", "NA61", "NAx", "X", "NZ1", "NA1 ", "NA1-1-1-1-1-", "NA1-5"};
        for (String text : other) {
            named(x, text, 0);
        }
        ask(x, "up NA1");
        ask(x, "north NA1 ");
        ask(x, "north NA61");
        due(x.count(5), 12);
        due(x.count(4), 23);

        x = told(43, "6 with FAULT 2");
        String[] numbers = {"NA0", "NA61", "NA1-5", "NA1-00"};
        for (int i = 0; i < numbers.length; i++) {
            named(x, numbers[i], 0);
            due(x.count(6), i + 1);
        }
        ask(x, "north NA61");
        ask(x, "steps NA61 X");
        ask(x, "steps NA1 NA61");
        due(x.count(6), 7);
        named(x, "NA001", 0);
        named(x, "NA1-1-1-1-1-", 0);
        named(x, "NA", 0);
        due(x.count(6), 7);
        due(x.count(4), 10);

        x = told(43, "0 pieces, 1 bytes of the tape, 2 states that are kept");
        for (int i = 1; i <= 8; i++) {
            x.store(0, i, 1900);
            x.feed(0, 0, 0, 0, 0);
            x.keep();
            due(x.count(0), i);
            due(x.count(1), 20 * i);
            due(x.count(2), i);
        }

        x = told(43, "NONE for others");
        due(x.count(-1), NONE);
        due(x.count(7), NONE);
        due(x.count(LEAST), NONE);
        due(x.count(MOST), NONE);
        due(x.count(6), 0);
    }

    private static void promise44() {
        SheetNames x = told(44, "how many states are; NONE: 8 are");
        for (int i = 1; i <= 8; i++) {
            due(x.keep(), i);
        }
        due(x.keep(), NONE);
        due(x.count(2), 8);
        due(x.undo(), 7);
        due(x.keep(), 8);
        due(x.keep(), NONE);

        x = told(44, "All but the tape is kept");
        x.feed(0, 0, 0, 0, 0);
        x.store(0, 5, 1900);
        due(x.keep(), 1);
        due(x.count(1), 20);
        x.feed(0, 0, 0, 0, 0);
        x.store(0, 5, 1901);
        due(x.undo(), 0);
        due(x.count(1), 40);
        due(x.piece(0, 2), 1900);
    }

    private static void promise45() {
        SheetNames x = told(45, "NONE: there is none");
        due(x.undo(), NONE);
        x.keep();
        due(x.undo(), 0);
        due(x.undo(), NONE);

        x = told(45, "All is as it was kept last (that state is gone): how many are left");
        for (int i = 1; i <= 8; i++) {
            x.store(0, 5, 1900 + i);
            x.keep();
        }
        x.store(0, 5, 2000);
        for (int i = 8; i >= 1; i--) {
            due(x.undo(), i - 1);
            due(x.piece(0, 2), 1900 + i);
        }
        due(x.undo(), NONE);
        due(x.piece(0, 2), 1901);

        x = told(45, "All is as it was kept last");
        x.keep();
        x.cut(1, 3, 5);
        x.store(1, 77, 1900);
        named(x, "N", 0);
        named(x, "NA0", 0);
        named(x, "NA1", 0);
        String changed = state(x);
        x.keep();
        x.drop(1, 77);
        x.cut(4, 6, 6);
        ask(x, "north");
        ask(x, "north NA99");
        ask(x, "north NA1");
        x.store(0, 0, 1950);
        due(x.undo(), 1);
        dueText(state(x), changed.replaceFirst("1 0 2", "1 0 1"));
        due(x.shown(0, 0, 0), 0);
        due(x.cut(1, 1, 1), -2);
        due(x.undo(), 0);
        dueText(state(x), "0 0 0 0 0 0 0 2x2 2x2 2x2 2x2 ");
        due(x.key(0, 0, 4), new SheetNames().key(0, 0, 4));
    }
}
