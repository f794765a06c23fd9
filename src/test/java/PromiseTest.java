import java.util.TreeSet;

/** For each promise of the document: ordinary inputs, the edges that it names, wrong inputs. */
public final class PromiseTest extends Calls {
    private static int right = 0;
    private static int wrong = 0;

    public static void main(String[] args) {
        promises1To4();
        promises5To8();
        promise7();
        promises9To14();
        promises15To17();
        promises18To21();
        promises22And23();
        promises24To26();
        promise25();
        promises27To29();
        promise30();
        promises31To34();
        promises35To39();
        promises40To42();
        promises43To45();
        System.out.println(right + " passed, " + wrong + " failed");
        if (wrong > 0) {
            System.exit(1);
        }
    }

    private static void due(String call, long got, long want) {
        if (got == want) {
            right++;
        } else {
            wrong++;
            System.out.println(call + " answered " + got + ", due is " + want);
        }
    }

    // ---- helpers

    private static void dueName(SheetNames x, int level, int key, String want) {
        String got = name(x, level, key);
        due("name of " + key + " at " + level + ", " + got + " for " + want, got.equals(want) ? 1 : 0, 1);
    }

    private static void dueAll(String call, int[] got, int... want) {
        due(call + " (all)", java.util.Arrays.equals(got, want) ? 1 : 0, 1);
    }

    // ---- the promises

    private static void promises1To4() {
        SheetNames x = new SheetNames();
        for (int what = 0; what <= 6; what++) {
            due("1: count of a new one", x.count(what), 0);
        }
        for (int level = 1; level <= 4; level++) {
            due("1: rows of a cut", x.level(level, 2), 2);
            due("1: columns of a cut", x.level(level, 3), 2);
        }
        for (int i = 1; i <= 10; i++) {
            due("2: feed", x.feed(1, 2, 3, 4, 5), 20 * i);
        }
        due("2: feed beyond 200", x.feed(1, 2, 3, 4, 5), -1);
        due("2: the tape stays", x.count(1), 200);
        SheetNames y = new SheetNames();
        y.feed('N' << 24 | 'A' << 16 | '1' << 8 | '-', '3' << 24 | '-' << 16 | '1' << 8 | '-', '4' << 24 | 0xFFFFFF, -1, -1);
        due("2: the highest byte first", y.named(9, 0), 3);
        y.feed(0x4E413180, 0, 0, 0, 0);
        due("2: a byte from 128 on is none of a name", y.named(4, 0), -1003);

        due("3: cut", x.cut(1, 3, 1), 2130 * 3 + 2);
        due("3: cut of a deeper one", x.cut(2, 1, 5), 2130 * 15 + 2);
        due("3: level 0", x.cut(0, 2, 2), -1);
        due("3: level 5", x.cut(5, 2, 2), -1);
        due("3: no rows", x.cut(1, 0, 2), -1);
        due("3: 7 columns", x.cut(1, 1, 7), -1);
        due("3: 7 rows", x.cut(4, 7, 1), -1);
        due("3: no columns", x.cut(4, 1, 0), -1);
        due("3: refused cuts change nothing", x.level(1, 2) * 10 + x.level(1, 3), 31);
        x.store(0, 5, 2000);
        due("3: a store that is not empty", x.cut(1, 2, 2), -2);
        due("3: NONE ahead of that", x.cut(1, 2, 9), -1);
        x.drop(0, 5);
        due("3: an empty one again", x.cut(1, 2, 2), 8522);
        SheetNames z = new SheetNames();
        due("3: 36 pieces", z.cut(1, 6, 6), 76682);
        due("3: too many at level 4", z.cut(2, 6, 6), -3);
        due("3: and nothing changes", z.level(2, 0), 2130 * 36 * 4 + 2);
        due("3: level 4 counts for a cut of level 3", z.cut(2, 4, 4) + z.cut(3, 4, 4), 2130 * 576 + 2 - 3);
        due("3: so it is cut less", z.cut(4, 1, 1), 2130 * 576 * 4 + 2);
        due("3: 9216 pieces of a zone go", z.cut(3, 4, 4), 2130 * 9216 + 2);
        due("3: twice as many do not", z.cut(4, 1, 2), -3);
        z.cut(3, 1, 1);
        z.cut(1, 5, 5);
        z.cut(2, 5, 5);
        due("3: 9375 pieces of a zone go", z.cut(3, 5, 3), 2130 * 9375 + 2);
        z.cut(3, 5, 1);
        z.cut(2, 5, 4);
        due("3: 10000 do not", z.cut(3, 5, 4), -3);
        z.cut(2, 4, 4);
        due("3: 9600 do not", z.cut(3, 6, 4), -3);
        z.store(0, 0, 1900);
        due("3: -2 ahead of -3", z.cut(4, 6, 6), -2);

        SheetNames w = new SheetNames();
        w.cut(1, 3, 1);
        w.cut(2, 1, 5);
        due("4: sheets", w.level(2, 0), 2130 * 15 + 2);
        due("4: rows", w.level(2, 1), 44 * 3 + 2);
        due("4: r", w.level(2, 2), 1);
        due("4: c", w.level(2, 3), 5);
        due("4: rows of a zone's sheet", w.level(3, 4), 6);
        due("4: columns of it", w.level(4, 5), 20);
        due("4: r of level 0", w.level(0, 2), 1);
        due("4: c of level 0", w.level(0, 3), 1);
        due("4: columns at level 0", w.level(0, 5), 1);
        due("4: level -1", w.level(-1, 0), -1);
        due("4: level 5", w.level(5, 0), -1);
        due("4: what 6", w.level(1, 6), -1);
        due("4: what -1", w.level(1, -1), -1);
    }

    private static void promises5To8() {
        SheetNames x = new SheetNames();
        due("5: the north pole", x.key(324000, 1295999, 4), 0);
        due("5: the south pole", x.key(-324000, 0, 4), 545281);
        due("5: just below the north cap", x.key(316799, 86400, 0), 2);
        due("5: the north cap's south edge", x.key(316800, 86400, 0), 0);
        due("5: the last band's south edge", x.key(-316800, 86400, 0), 2117);
        due("5: just below it", x.key(-316801, 86400, 0), 2131);
        due("5: a band's south edge is its own", x.key(14400, 0, 0), 946);
        due("5: a band's north edge is not", x.key(14399, 0, 0), 1006);
        due("5: the last zone", x.key(0, 1295999, 0), 1065);
        due("5: band 15 has 30 zones", x.key(216000, 1295999, 0), 165);
        due("5: band -16 has 30 zones", x.key(-216001, 43200, 0), 1967);
        due("5: band -20 has 15 zones", x.key(-288000, 86399, 0), 2086);
        due("5: below it", x.key(-288001, 86399, 0), 2101);
        due("5: lat too high", x.key(324001, 0, 0), -1);
        due("5: lat too low", x.key(-324001, 0, 0), -1);
        due("5: lon too high", x.key(0, 1296000, 0), -1);
        due("5: lon below 0", x.key(0, -1, 0), -1);
        due("5: level 5", x.key(0, 0, 5), -1);
        due("5: level -1", x.key(0, 0, -1), -1);
        SheetNames y = new SheetNames();
        y.cut(1, 6, 6);
        y.cut(2, 6, 1);
        y.cut(3, 6, 1);
        y.cut(4, 1, 1);
        due("5: an edge that is no second, below", y.key(66, 0, 3) - y.key(67, 0, 3), 360);
        due("5: inside of the first row", y.key(65, 0, 3), y.key(0, 0, 3));

        dueName(x, 0, 0, "NZ");
        dueName(x, 4, 545281, "SZ");
        dueName(x, 0, 1, "NV1");
        dueName(x, 0, 2130, "SV15");
        dueName(x, 0, 1065, "NA60");
        dueName(x, 0, 1014, "NA9");
        dueName(x, 0, 1015, "NA10");
        dueName(x, 0, 1066, "SA1");
        dueName(x, 1, 4021, "NA1-1");
        dueName(x, 1, 4022, "NA1-2");
        dueName(x, 1, 4142, "NA1-4");
        dueName(x, 4, x.key(0, 0, 4), "NA1-3-3-3-3");
        dueName(x, 4, x.key(-1, 1295999, 4), "SA60-2-2-2-2");
        dueName(y, 1, y.key(0, 21599, 1), "NA1-36");
        dueName(y, 2, y.key(2400, 0, 2), "NA1-25-6");
        due("6: i beyond the name", x.name(0, 1065, 4), -2);
        due("6: i below NONE", x.name(0, 1065, -2), -1);
        due("6: key beyond", x.name(0, 2132, -1), -1);
        due("6: NONE ahead of -2", x.name(0, 2132, 99), -1);
        due("6: key below 0", x.name(0, -1, 0), -1);
        due("6: level 5", x.name(5, 0, 0), -1);

        SheetNames z = uncut();
        z.cut(1, 6, 6);
        z.cut(2, 6, 6);
        due("8: a fraction, top", z.edge(2, z.key(401, 0, 2), 0), 400);
        due("8: a fraction, bottom", z.edge(2, z.key(401, 0, 2), 1), 1);
        SheetNames q = uncut();
        q.cut(1, 6, 6);
        q.cut(2, 6, 6);
        q.cut(3, 3, 1);
        int key = q.key(-1, 0, 3);
        due("8: south edge below the equator, top", q.edge(3, key, 0), -400);
        due("8: south edge, bottom", q.edge(3, key, 1), 3);
        due("8: north edge", q.edge(3, key, 2), 0);
        due("8: a north edge, top", q.edge(3, q.key(0, 0, 3), 2), 400);
        due("8: a north edge, bottom", q.edge(3, q.key(0, 0, 3), 3), 3);
        due("8: a west edge, bottom", q.edge(3, q.key(0, 21599, 3), 5), 1);
        due("8: a cap's south", q.edge(3, 0, 0), 316800);
        due("8: north edge, bottom", q.edge(3, key, 3), 1);
        due("8: west", x.edge(0, 1065, 4), 1274400);
        due("8: east of the last", x.edge(0, 1065, 6), 1296000);
        due("8: east bottom", x.edge(0, 1065, 7), 1);
        due("8: a cap's west", x.edge(3, 0, 4), 0);
        due("8: a cap's west, bottom", x.edge(3, 0, 5), 1);
        due("8: a cap's east", x.edge(0, 2131, 6), 1296000);
        due("8: the north cap's north", x.edge(2, 0, 2), 324000);
        due("8: what 8", x.edge(0, 5, 8), Long.MIN_VALUE);
        due("8: what -1", x.edge(0, 5, -1), Long.MIN_VALUE);
        due("8: no such key", x.edge(0, 2132, 0), Long.MIN_VALUE);
        due("8: no such level", x.edge(5, 0, 0), Long.MIN_VALUE);
    }

    private static void promise7() {
        SheetNames x = new SheetNames();
        due("7: level", named(x, "NA1-3-3-3-3", 0), 4);
        due("7: key", named(x, "NA1-3-3-3-3", 1), x.key(0, 0, 4));
        due("7: noughts ahead", named(x, "SA01-02", 1), x.key(-1, 10800, 1));
        due("7: a cap's level", named(x, "SZ", 0), 0);
        due("7: a cap's key", named(x, "SZ", 1), 2131);
        due("7: the tape is empty then", x.count(1), 0);
        due("7: pieces of each level", named(x, "SB37-4-3-2-1", 1), x.key(-26100, 36 * 21600 + 14849, 4));
        feed(x, "NA1-3");
        due("7: the first n bytes alone", x.named(4, 0), -1004);
        feed(x, "NA1-3");
        due("7: and of these all", x.named(3, 1), 1006);
        due("7: no half", named(x, "XA1", 0), -1000);
        due("7: a small letter", named(x, "na1", 0), -1000);
        due("7: no letter W", named(x, "NW1", 0), -1001);
        due("7: the end behind N", named(x, "N", 0), -1001);
        due("7: the end behind the letter", named(x, "NA", 0), -1002);
        due("7: no digit", named(x, "NA-", 0), -1002);
        due("7: zone 0", named(x, "NA0", 0), -2002);
        due("7: zone 00", named(x, "NA00", 0), -2002);
        due("7: zone 61", named(x, "NA61", 0), -2002);
        due("7: zone 31 of 30", named(x, "NP31", 0), -2002);
        due("7: zone 30 of 30", named(x, "SS30", 1), 2085);
        due("7: zone 16 of 15", named(x, "SV16-1", 0), -2002);
        due("7: a third digit", named(x, "NA012", 0), -1004);
        due("7: a third digit behind a number that there is not", named(x, "NA999", 0), -1004);
        due("7: a number that there is not, then a sign", named(x, "NA99x", 0), -2002);
        due("7: a sign behind a number", named(x, "NA1x", 0), -1003);
        due("7: a blank", named(x, "NA1 ", 0), -1003);
        due("7: the end behind -", named(x, "NA1-", 0), -1004);
        due("7: two -", named(x, "NA1--", 0), -1004);
        due("7: piece 5 of 4", named(x, "NA1-5", 0), -2004);
        due("7: piece 0", named(x, "NA12-1-0", 0), -2007);
        due("7: a third digit of a piece", named(x, "NA1-041", 0), -1006);
        due("7: the - of a fifth piece", named(x, "NA1-1-1-1-1-", 0), -3011);
        due("7: a number ahead of it", named(x, "NA1-1-1-1-9-", 0), -2010);
        due("7: no - behind four pieces", named(x, "NA1-1-1-1-1x", 0), -1011);
        due("7: behind a cap", named(x, "NZ-1", 0), -1002);
        due("7: behind a cap, a digit", named(x, "SZ1", 1), -1002);
        due("7: the end is told ahead of nothing", named(x, "N", 1), -1001);
        x.cut(1, 6, 6);
        due("7: the number by the cuts", named(x, "NA1-36", 1), x.key(0, 21599, 1));
        due("7: a number beyond the cuts", named(x, "NA1-37", 1), -2004);
        feed(x, "NA1");
        due("7: n 0", x.named(0, 0), -1);
        due("7: n 41", x.named(41, 0), -1);
        due("7: the tape has not so many", x.named(21, 0), -1);
        due("7: what 2", x.named(3, 2), -1);
        due("7: what -1", x.named(3, -1), -1);
        due("7: the tape stays", x.count(1), 20);
        due("7: and is read", x.named(3, 1), 1006);
        feed(x, "NA1-1-1-1-1bbbbbbbbbbbbbbbbbbbbbbbbbbbbb");
        due("7: 40 bytes", x.named(40, 1), -1011);
        feed(x, "NA1-1-1-1-1bbbbbbbbbbbbbbbbbbbbbbbbbbbbbb");
        due("7: 41 bytes", x.named(41, 1), -1);
    }

    private static void promises9To14() {
        SheetNames x = new SheetNames();
        due("9: lat below the equator", x.middle(0, 1066, 0), -7200);
        due("9: lon", x.middle(0, 1067, 1), 32400);
        due("9: a cap's lat", x.middle(4, 0, 0), 324000);
        due("9: a cap's lon", x.middle(4, 545281, 1), 0);
        due("9: what 2", x.middle(0, 5, 2), -1000000);
        due("9: what -1", x.middle(0, 5, -1), -1000000);
        due("9: key", x.middle(0, 2132, 0), -1000000);
        due("9: level", x.middle(-1, 0, 0), -1000000);
        SheetNames y = uncut();
        y.cut(1, 6, 6);
        y.cut(2, 6, 1);
        y.cut(3, 3, 1);
        due("9: cut down", y.middle(3, y.key(0, 0, 3), 0), 66);
        due("9: cut down below 0", y.middle(3, y.key(-1, 0, 3), 0), -67);

        int key = x.key(-216001, 43200, 2);
        due("10: row", x.at(2, key, 0), 4 * 37 + 1);
        due("10: place", x.at(2, key, 1), 4);
        due("10: how many", x.at(2, key, 2), 120);
        due("10: band", x.at(2, key, 3), -16);
        due("10: zone", x.at(2, key, 4), 1);
        due("10: last number", x.at(2, key, 5), 1);
        due("10: last number of level 0", x.at(0, 1065, 5), 60);
        due("10: the south cap's row", x.at(1, 8521, 0), 89);
        due("10: the south cap's band", x.at(1, 8521, 3), -100);
        due("10: the north cap's band", x.at(3, 0, 3), 100);
        due("10: a cap's place", x.at(1, 8521, 1), 0);
        due("10: a cap's row has", x.at(1, 8521, 2), 1);
        due("10: a cap's zone", x.at(1, 8521, 4), 0);
        due("10: a cap's number", x.at(1, 8521, 5), 0);
        due("10: what 6", x.at(1, 0, 6), -1000000);
        due("10: what -1", x.at(1, 0, -1), -1000000);
        due("10: key", x.at(1, 8522, 0), -1000000);

        due("11: the north cap", x.keyAt(3, 0, 0), 0);
        due("11: a cap has one place", x.keyAt(3, 0, 1), -1);
        due("11: the south cap", x.keyAt(1, 89, 0), 8521);
        due("11: the first row", x.keyAt(0, 1, 14), 15);
        due("11: its end", x.keyAt(0, 1, 15), -1);
        due("11: 30 zones", x.keyAt(0, 4, 29), 75);
        due("11: row -1", x.keyAt(0, -1, 0), -1);
        due("11: row 46", x.keyAt(0, 46, 0), -1);
        due("11: place -1", x.keyAt(0, 5, -1), -1);
        due("11: level 5", x.keyAt(5, 0, 0), -1);
        due("11: great row", x.keyAt(0, MOST, 0), -1);

        due("12: its own level", x.parent(1, 4141, 1), 4141);
        due("12: four levels above", x.parent(4, x.key(-100000, 777777, 4), 0), x.key(-100000, 777777, 0));
        due("12: of the south cap", x.parent(4, 545281, 2), x.level(2, 0) - 1);
        due("12: beside the south cap", x.parent(2, x.key(-316800, 90000, 2), 0), 2117);
        due("12: of the north cap", x.parent(4, 0, 0), 0);
        due("12: a deeper one", x.parent(1, 4141, 2), -1);
        due("12: to -1", x.parent(1, 4141, -1), -1);
        due("12: key", x.parent(1, 8522, 0), -1);

        due("13: two levels", x.child(0, 1006, 2, -1), 16);
        due("13: its own level", x.child(2, 77, 2, 0), 77);
        due("13: its own level has one", x.child(2, 77, 2, 1), -2);
        due("13: by keys, across", x.child(0, 1006, 2, 3), x.key(14399, 21599, 2));
        due("13: by keys, down", x.child(0, 1006, 2, 12), x.key(0, 0, 2));
        due("13: the last", x.child(0, 1006, 2, 15), x.key(0, 21599, 2));
        due("13: beyond", x.child(0, 1006, 2, 16), -2);
        due("13: a cap has one", x.child(0, 2131, 4, -1), 1);
        due("13: the north cap's", x.child(1, 0, 4, 0), 0);
        due("13: east of the first", x.child(1, 4160, 2, 0), x.key(7199, 19 * 10800, 2));
        due("13: a cap's", x.child(0, 2131, 4, 0), 545281);
        due("13: a cap's second", x.child(0, 2131, 4, 1), -2);
        due("13: a level above", x.child(1, 5, 0, 0), -1);
        due("13: level 5", x.child(1, 5, 5, 0), -1);
        due("13: i below NONE", x.child(1, 5, 2, -2), -1);
        due("13: key", x.child(0, 2132, 2, 99), -1);

        due("14: level 4", x.common(0, 0, 899, 1349), 4);
        due("14: level 3", x.common(0, 0, 900, 0), 3);
        due("14: level 0", x.common(0, 0, 0, 21599), 0);
        due("14: at none", x.common(0, 0, 0, 21600), -2);
        due("14: a cap", x.common(-324000, 0, -316801, 1295999), 4);
        due("14: both caps", x.common(-324000, 0, 324000, 0), -2);
        due("14: no place", x.common(0, 0, 0, 1296000), -1);
        due("14: no first place", x.common(324001, 0, 0, 0), -1);
    }

    private static void promises15To17() {
        SheetNames x = new SheetNames();
        dueAll("15: east at the date line", neighbours(x, 0, 1065, 1), 1006);
        dueAll("15: west at the date line", neighbours(x, 0, 1006, 3), 1065);
        dueAll("15: south of a jog, two", neighbours(x, 0, 45, 2), 74, 75);
        dueAll("15: north of a jog, one", neighbours(x, 0, 75, 0), 45);
        dueAll("15: south to fewer, one", neighbours(x, 0, 1965, 2), 1995);
        dueAll("15: north to more, two", neighbours(x, 0, 1995, 0), 1964, 1965);
        dueAll("15: to the north cap", neighbours(x, 0, 15, 0), 0);
        dueAll("15: to the south cap", neighbours(x, 1, 8520, 2), 8521);
        due("15: of the south cap", x.neighbour(1, 8521, 0, -1), 30);
        due("15: its last", x.neighbour(1, 8521, 0, 29), 8520);
        due("15: behind the south cap", x.neighbour(1, 8521, 2, -1), 0);
        due("15: a cap has no east", x.neighbour(1, 8521, 1, 0), -2);
        due("15: a cap has no west", x.neighbour(1, 0, 3, 0), -2);
        due("15: beyond", x.neighbour(0, 1006, 0, 1), -2);
        due("15: i below NONE", x.neighbour(0, 1006, 0, -2), -1);
        due("15: side -1", x.neighbour(0, 1006, -1, 0), -1);
        due("15: side 4", x.neighbour(0, 1006, 4, 0), -1);
        due("15: key", x.neighbour(0, 2132, 0, 0), -1);
        due("15: level", x.neighbour(5, 0, 0, 0), -1);

        dueAll("16: at the date line", around(x, 0, 1065), 1005, 1006, 1064, 1125);
        dueAll("16: at a jog", around(x, 0, 45), 30, 31, 44, 74, 75);
        dueAll("16: beside the cap", around(x, 0, 1), 0, 2, 15, 16);
        due("16: a cap's", x.around(2, 0, -1), 60);
        due("16: the last of a cap", x.around(0, 2131, 14), 2130);
        due("16: beyond", x.around(0, 2131, 15), -2);
        due("16: i below NONE", x.around(0, 5, LEAST), -1);
        due("16: key", x.around(0, -1, 0), -1);

        due("17: north", x.side(0, 1, 0), 0);
        due("17: east, going round", x.side(0, 1065, 1006), 1);
        due("17: south, the second one", x.side(0, 45, 75), 2);
        due("17: west", x.side(0, 1007, 1006), 3);
        due("17: to none, a corner", x.side(0, 1006, 947), -2);
        due("17: the cap", x.side(0, 2131, 2120), 0);
        due("17: of the north cap", x.side(0, 0, 15), 2);
        due("17: itself", x.side(0, 5, 5), -1);
        due("17: key", x.side(0, 5, 2132), -1);
        due("17: first key", x.side(0, -1, 5), -1);
        due("17: level", x.side(5, 0, 1), -1);
    }

    private static void promises18To21() {
        SheetNames x = new SheetNames();
        due("18: the same", x.steps(0, 77, 77), 0);
        due("18: going round", x.steps(0, 1006, 1065), 1);
        due("18: over the cap", x.steps(0, 1, 8), 2);
        due("18: half round the equator", x.steps(0, 1006, 1036), 30);
        due("18: level 1", x.steps(1, 0, 8521), 89);
        due("18: too many sheets", x.steps(2, 5, 5), -3);
        due("18: NONE ahead of -3", x.steps(2, 5, 34082), -1);
        due("18: first key", x.steps(0, -1, 5), -1);
        SheetNames y = uncut();
        y.cut(1, 3, 3);
        due("18: 19172 sheets go", y.steps(1, 0, 19171), 133);
        y.cut(1, 5, 2);
        due("18: 21302 do not", y.steps(1, 0, 1), -3);

        due("19: the first", x.way(0, 1, 8, 0), 1);
        due("19: over the cap", x.way(0, 1, 8, 1), 0);
        due("19: the end", x.way(0, 1, 8, 2), 8);
        due("19: beyond", x.way(0, 1, 8, 3), -2);
        due("19: the least key of two ways", x.way(0, 1006, 1067, 1), 1007);
        due("19: the least key, back", x.way(0, 1067, 1006, 1), 1007);
        due("19: the least key at the date line", x.way(0, 1065, 1066, 1), 1006);
        due("19: i NONE is none", x.way(0, 1, 8, -1), -1);
        due("19: -3 ahead of -2", x.way(2, 1, 1, 99), -3);
        due("19: NONE ahead of -3", x.way(2, 1, -1, 99), -1);
        due("19: to itself", x.way(0, 9, 9, 0), 9);
        due("19: to itself, beyond", x.way(0, 9, 9, 1), -2);

        due("20: itself", x.reach(0, 2131, 0), 1);
        due("20: a cap's row", x.reach(0, 2131, 1), 16);
        due("20: at a jog", x.reach(0, 45, 1), 6);
        due("20: all", x.reach(0, 1006, MOST), 2132);
        due("20: two steps", x.reach(0, 1006, 2), 13);
        due("20: below 0", x.reach(0, 1006, -1), -1);
        due("20: key", x.reach(0, 2132, 1), -1);
        due("20: too many sheets", x.reach(3, 0, 0), -3);
        due("20: NONE ahead", x.reach(3, 0, -1), -1);

        due("21: of the south cap", x.farthest(0, 2131, 0), 45);
        due("21: its key", x.farthest(0, 2131, 1), 0);
        due("21: of a sheet on the equator", x.farthest(0, 1006, 0), 38);
        due("21: there is one", x.reach(0, 1006, 37), 2131);
        due("21: its key", x.farthest(0, 1006, 1), 1516);
        due("21: beside the cap", x.farthest(0, 1, 0), 45);
        due("21: the least of like ones", x.farthest(0, 1, 1), 2118);
        due("21: it has as many steps", x.steps(0, 1, 2118), 45);
        due("21: so has another one", x.steps(0, 1, 2119), 45);
        due("21: the one ahead has not", x.steps(0, 1, 2117), 44);
        due("21: what 2", x.farthest(0, 0, 2), -1);
        due("21: key", x.farthest(0, -1, 0), -1);
        due("21: too many sheets", x.farthest(2, 0, 0), -3);
        due("21: NONE ahead", x.farthest(2, 0, -1), -1);
    }

    private static void promises22And23() {
        SheetNames x = new SheetNames();
        dueAll("22: going round", corners(x, 0, 1065), 946, 1004, 1066, 1124);
        dueAll("22: beside the north cap", corners(x, 0, 1), 17, 30);
        dueAll("22: beside the south cap", corners(x, 0, 2130), 2101, 2114);
        dueAll("22: above a jog", corners(x, 0, 31), 17, 30, 48, 75);
        dueAll("22: below a jog, the first half", corners(x, 0, 46), 45, 77, 105);
        dueAll("22: below a jog, the second half", corners(x, 0, 47), 32, 76, 78);
        dueAll("22: of a cap", corners(x, 0, 2131));
        due("22: a cap's first", x.corners(1, 0, 0), -2);
        due("22: beyond", x.corners(0, 1065, 4), -2);
        due("22: i below NONE", x.corners(0, 1065, -2), -1);
        due("22: key", x.corners(0, 2132, 0), -1);
        due("22: level", x.corners(-1, 0, 0), -1);
        dueAll("22: below a jog, going round", corners(x, 1, 181), 180, 242, 300);

        due("23: no jog to the north", x.jog(0, 1006, 0), 0);
        due("23: a jog to the south", x.jog(0, 45, 2), 1);
        due("23: not to its north", x.jog(0, 45, 0), 0);
        due("23: a jog to the north", x.jog(0, 46, 0), 1);
        due("23: to the cap", x.jog(0, 1, 0), 1);
        due("23: to the south cap", x.jog(0, 2130, 2), 1);
        due("23: a row ahead of a jog", x.jog(0, 30, 2), 0);
        due("23: from the cap", x.jog(0, 2131, 0), 1);
        due("23: behind a cap there is no row", x.jog(0, 0, 0), 0);
        due("23: inside a band", x.jog(1, x.key(-216001, 0, 1), 2), 0);
        due("23: at its edge", x.jog(1, x.key(-216001, 0, 1), 0), 1);
        due("23: side 1", x.jog(0, 45, 1), -1);
        due("23: side 3", x.jog(0, 45, 3), -1);
        due("23: side -1", x.jog(0, 45, -1), -1);
        due("23: key", x.jog(0, 2132, 0), -1);
    }

    private static void promises24To26() {
        SheetNames x = new SheetNames();
        dueAll("24: one place", box(x, 0, 0, 0, 0, 0), 1006);
        dueAll("24: both ends are in it", box(x, -1, 14400, 21599, 21600, 0), 946, 947, 1006, 1007, 1066, 1067);
        dueAll("24: ends are not beyond", box(x, 0, 14399, 0, 21599, 0), 1006);
        dueAll("24: over lon 0", box(x, 0, 0, 1295999, 0, 0), 1065, 1006);
        dueAll("24: with the cap", box(x, 316799, 316800, 86400, 172800, 0), 0, 2, 3);
        dueAll("24: rows of a level from the north", box(x, -1, 14400, 1295999, 0, 1), 4020, 3901, 4140, 4021, 4260, 4141,
                4380, 4261);
        dueAll("24: with the south cap", box(x, -316801, -316800, 1295999, 1295999, 0), 2130, 2131);
        due("24: round, both ends in one sheet", x.box(0, 0, 5, 4, 0, -1), 60);
        due("24: its first", x.box(0, 0, 21605, 21604, 0, 0), 1007);
        due("24: its last", x.box(0, 0, 21605, 21604, 0, 59), 1006);
        due("24: nearly round", x.box(0, 0, 21600, 21599, 0, -1), 60);
        due("24: round but one", x.box(0, 0, 21600, 0, 0, -1), 60);
        due("24: round but one zone", x.box(0, 0, 43200, 21599, 0, -1), 59);
        due("24: all", x.box(-324000, 324000, 0, 1295999, 4, -1), 545282);
        due("24: the last of all", x.box(-324000, 324000, 0, 1295999, 4, 545281), 545281);
        due("24: all, from the middle", x.box(-324000, 324000, 648000, 647999, 0, 1), 8);
        due("24: beyond", x.box(0, 0, 0, 0, 0, 1), -2);
        due("24: i below NONE", x.box(0, 0, 0, 0, 0, -2), -1);
        due("24: a above b", x.box(1, 0, 0, 0, 0, 0), -1);
        due("24: no lat", x.box(-324001, 0, 0, 0, 0, 0), -1);
        due("24: no lat b", x.box(0, 324001, 0, 0, 0, 0), -1);
        due("24: no lon", x.box(0, 0, -1, 0, 0, 0), -1);
        due("24: no lon e", x.box(0, 0, 0, 1296000, 0, 0), -1);
        due("24: level", x.box(0, 0, 0, 0, 5, 0), -1);
        SheetNames y = new SheetNames();
        y.cut(1, 6, 6);
        y.cut(4, 1, 1);
        y.cut(2, 4, 4);
        y.cut(3, 4, 4);
        due("24: many sheets", y.box(-324000, 324000, 0, 1295999, 4, -1), y.level(4, 0));
        due("24: the last of many", y.box(-324000, 324000, 0, 1295999, 4, y.level(4, 0) - 1), y.level(4, 0) - 1);

        due("26: itself", x.between(0, 1006, 1006), 1);
        due("26: eastwards", x.between(0, 1006, 1008), 3);
        due("26: the other way round", x.between(0, 1008, 1006), 59);
        due("26: rows", x.between(0, 946, 1067), 6);
        due("26: to the cap", x.between(0, 2, 0), 16);
        due("26: from the cap", x.between(0, 0, 2), 3);
        due("26: both caps", x.between(0, 0, 2131), 46);
        due("26: over a jog", x.between(0, 46, 31), 3);
        due("26: over a jog, round", x.between(0, 31, 46), 45);
        due("26: key", x.between(0, 2132, 0), -1);
        due("26: other key", x.between(0, 0, -1), -1);
        due("26: level", x.between(5, 0, 0), -1);
    }

    private static void promise25() {
        SheetNames x = new SheetNames();
        int deep = 100000000;
        dueAll("25: a whole sheet", cover(x, 0, 14399, 0, 21599, 1), 1006);
        dueAll("25: all pieces touched", cover(x, 7199, 7200, 10799, 10800, 1), 1006);
        dueAll("25: three pieces", cover(x, 7200, 14400, 0, 10800, 1),
                deep + x.key(14400, 0, 1), deep + x.key(14400, 10800, 1), deep + 4021, deep + 4022);
        dueAll("25: levels mixed", cover(x, 0, 14399, 0, 21600, 1), 1006, deep + 4023, deep + 4143);
        dueAll("25: by levels, then keys", cover(x, 0, 14399, 1285200, 21599, 1), 1006, deep + 4140, deep + 4260);
        dueAll("25: a cap is of level 0", cover(x, 316800, 324000, 5, 7, 4), 0);
        dueAll("25: both caps, level 0", cover(x, -324000, -316801, 5, 7, 0), 2131);
        due("25: all, by level 1", x.cover(-216000, 215999, 0, 1295999, 0, -1), 1800);
        due("25: round, from inside a sheet", x.cover(0, 14399, 5, 4, 1, -1), 60);
        due("25: just 3840", x.cover(0, 28799, 0, 1295999, 3, -1) + x.box(0, 28799, 0, 1295999, 3, -1), -2 + 7680);
        due("25: 3840 sheets", x.cover(0, 14399, 0, 1295999, 3, -1), 60);
        due("25: more than 4000", x.cover(-324000, 324000, 0, 1295999, 1, 0), -2);
        due("25: NONE ahead of -2", x.cover(-324000, 324000, 0, 1295999, 1, -2), -1);
        due("25: -3", x.cover(0, 14399, 0, 21599, 1, 1), -3);
        due("25: a above b", x.cover(1, 0, 0, 0, 0, 0), -1);
        due("25: level", x.cover(0, 0, 0, 0, -1, 0), -1);
        due("25: no lon", x.cover(0, 0, 1296000, 0, 0, 0), -1);
        SheetNames z = uncut();
        z.cut(1, 6, 4);
        z.cut(2, 6, 1);
        due("25: 4000 sheets", z.cover(284800, 316799, 0, 50 * 21600 - 1, 2, 0), z.key(316799, 0, 0));
        due("25: 4001 sheets", z.cover(284800, 316800, 0, 50 * 21600 - 1, 2, 0), -2);
        due("35: 4000 sheets", z.lacks(284800, 316799, 0, 50 * 21600 - 1, 2, 0, -1), 4000);
        due("35: 4001 sheets", z.lacks(284800, 316800, 0, 50 * 21600 - 1, 2, 0, -1), -2);
        dueAll("25: three levels", cover(x, 0, 14399, 0, 32400, 2), 1006, deep + 4023, deep + 4143,
                2 * deep + x.key(14399, 32400, 2), 2 * deep + x.key(10799, 32400, 2),
                2 * deep + x.key(7199, 32400, 2), 2 * deep + x.key(3599, 32400, 2));
        SheetNames y = uncut();
        dueAll("25: a sheet above stands for its only piece", cover(y, 0, 0, 0, 0, 4), 1006);
        y.cut(2, 1, 2);
        dueAll("25: and level 0 for that of level 1", cover(y, 0, 0, 0, 10800, 4), 1006);
        dueAll("25: of levels alike the one above", cover(y, 0, 0, 0, 0, 4), 2 * deep + y.key(0, 0, 2));
    }

    private static void promises27To29() {
        SheetNames x = new SheetNames();
        due("27: fewer zones are wider", x.wider(0, 45, 46), 1);
        due("27: more zones are narrower", x.wider(0, 1006, 1966), -1);
        due("27: alike", x.wider(0, 1006, 166), 0);
        due("27: a cap is widest", x.wider(3, 0, 1), 1);
        due("27: narrower than a cap", x.wider(0, 1, 2131), -1);
        due("27: both caps", x.wider(0, 0, 2131), 0);
        due("27: key", x.wider(0, 0, 2132), -1000000);
        due("27: first key", x.wider(0, -1, 0), -1000000);
        due("27: level", x.wider(5, 0, 0), -1000000);

        due("28: byte by byte, 10 ahead of 2", x.before(0, 1015, 1007), -1);
        due("28: behind", x.before(0, 1007, 1015), 1);
        due("28: what ends sooner is ahead", x.before(0, 1006, 1015), -1);
        due("28: itself", x.before(0, 77, 77), 0);
        due("28: another longer one", x.before(0, 1020, 1006), 1);
        due("28: leaves nothing behind", x.before(0, 1006, 1015), -1);
        due("28: N ahead of S", x.before(0, 2130, 0), 1);
        due("28: NZ behind NV", x.before(0, 0, 1), 1);
        due("28: - ahead of a digit", x.before(1, x.key(0, 0, 1), x.key(0, 9 * 21600, 1)), -1);
        due("28: by the piece", x.before(1, 4021, 4141), -1);
        due("28: key", x.before(0, 0, 2132), -1000000);
        due("28: first key", x.before(0, 2132, 0), -1000000);
        due("28: level", x.before(-1, 0, 0), -1000000);

        due("29: north", x.moved(0, 0, 14400, 0, 0), 946);
        due("29: south", x.moved(0, 0, -1, 0, 0), 1066);
        due("29: west over lon 0", x.moved(0, 0, 0, -1, 0), 1065);
        due("29: twice round", x.moved(0, 21600, 0, 2592000, 0), 1007);
        due("29: far to the west", x.moved(0, 0, 0, LEAST, 0), x.key(0, Math.floorMod(LEAST, 1296000), 0));
        due("29: to the pole", x.moved(323999, 0, 1, 0, 0), 0);
        due("29: beyond it", x.moved(323999, 0, 2, 0, 0), -3);
        due("29: to the south pole", x.moved(0, 0, -324000, 0, 0), 2131);
        due("29: beyond the south pole", x.moved(-324000, 0, -1, 0, 0), -3);
        due("29: lat no int", x.moved(1, 0, MOST, 0, 0), -2);
        due("29: lat just an int", x.moved(1, 0, MOST - 1, 0, 0), -3);
        due("29: lat no int below", x.moved(-1, 0, LEAST, 0, 0), -2);
        due("29: lon no int", x.moved(0, 1, 0, MOST, 0), -2);
        due("29: lon just an int", x.moved(0, 1, 0, MOST - 1, 0), x.key(0, MOST % 1296000, 0));
        due("29: -2 ahead of -3", x.moved(324000, 1, 1, MOST, 0), -2);
        due("29: NONE ahead of -2", x.moved(0, 1, 0, MOST, 5), -1);
        due("29: no place", x.moved(0, 1296000, 0, 0, 0), -1);
    }

    private static void promise30() {
        SheetNames x = new SheetNames();
        due("30: north", ask(x, "north NA1"), 946);
        due("30: east", ask(x, "east NA60"), 1006);
        due("30: south, the first of two", ask(x, "south NT15"), 74);
        due("30: west", ask(x, "west NA1-3"), x.key(0, 1295999, 1));
        due("30: a cap's level is 0", ask(x, "south NZ"), 1);
        due("30: none to the north", ask(x, "north NZ"), -2);
        due("30: none to a cap's west", ask(x, "west SZ"), -2);
        due("30: to a cap", ask(x, "south SV1-4"), 8521);
        due("30: above", ask(x, "above NA1-3-2"), 4141);
        due("30: above level 0", ask(x, "above NA1"), -2);
        due("30: above a cap", ask(x, "above NZ"), -2);
        due("30: steps", ask(x, "steps NA1 NA3"), 2);
        due("30: steps of unlike levels", ask(x, "steps NA1 NA1-1"), -2);
        due("30: too many sheets", ask(x, "steps NA1-1-1 NA1-1-1"), -3);
        due("30: unlike levels ahead of that", ask(x, "steps NA1-1-1-1 NA1-1-1"), -2);
        due("30: a cap and a deeper one", ask(x, "steps NZ NA1-1"), -2);
        due("30: between", ask(x, "between NA3 NA1"), 59);
        due("30: between of level 2", ask(x, "between NA1-1-1 NA1-1-4"), 4);
        due("30: between of unlike levels", ask(x, "between NA1-1-1 NZ"), -2);
        due("30: so many without a fault", x.count(3), 19);
        due("30: none with one", x.count(4), 0);
        due("30: no blank", ask(x, "north"), -1005);
        due("30: no blank, another word", ask(x, "NA1"), -1003);
        due("30: another word", ask(x, "up NA1"), -1000);
        due("30: no word", ask(x, " NA1"), -1000);
        due("30: a word and more", ask(x, "norths NA1"), -1000);
        due("30: half a word", ask(x, "nort NA1"), -1000);
        due("30: great letters", ask(x, "North NA1"), -1000);
        due("30: another word ahead of a wrong name", ask(x, "up X"), -1000);
        due("30: an empty name", ask(x, "north "), -1006);
        due("30: two blanks", ask(x, "north  NA1"), -1006);
        due("30: a blank behind", ask(x, "north NA1 "), -1009);
        due("30: a number's place", ask(x, "above NA61-1"), -2008);
        due("30: a fifth piece", ask(x, "west NA1-1-1-1-1-1"), -3016);
        due("30: the end of a name", ask(x, "above NA1-"), -1010);
        due("30: the first name ends too soon", ask(x, "steps NA NA1"), -1008);
        due("30: an empty first name", ask(x, "steps  NA1"), -1006);
        due("30: no second blank", ask(x, "steps NA1"), -1009);
        due("30: no second blank, a wrong name", ask(x, "steps NX"), -1007);
        due("30: an empty second name", ask(x, "between NA1 "), -1012);
        due("30: the second name's fault", ask(x, "between NA1 NA0"), -2014);
        due("30: a third blank", ask(x, "between NA1 NA1 "), -1015);
        due("30: the first name's fault first", ask(x, "steps NA99 X"), -2008);
        due("30: with a fault", x.count(4), 22);
        due("30: ended too soon", x.count(5), 8);
        due("30: of fault 2", x.count(6), 3);
        feed(x, "north NA1");
        due("30: n 0", x.ask(0), -1);
        due("30: n 101", x.ask(101), -1);
        due("30: n below 0", x.ask(LEAST), -1);
        due("30: the tape has not so many", x.ask(21), -1);
        due("30: the tape stays", x.count(1), 20);
        due("30: and is read", x.ask(9), 946);
        due("30: empty then", x.count(1), 0);
        StringBuilder text = new StringBuilder("north NA1-1-1-1-1");
        while (text.length() < 101) {
            text.append('x');
        }
        feed(x, text.toString());
        due("30: n 101 of so many", x.ask(101), -1);
        due("30: n 100", x.ask(100), -1017);
        feed(x, "Xaaaaaaaaaaaaaaaaaaa");
        due("30: n 1", x.ask(1), -1001);
        feed(x, "steps NA1-1-1 NA1-01");
        due("30: all of the tape", x.ask(20), -2);
        feed(x, "steps NA1-1-1-1-1 SA60-4-4-4-4 and more");
        due("30: the first n bytes alone", x.ask(30), -3);
    }

    private static void promises31To34() {
        SheetNames x = new SheetNames();
        due("31: store", x.store(1, 4141, 1990), 1);
        due("31: the same sheet again", x.store(1, 4141, 1980), 1);
        due("31: has the later year", x.piece(0, 2), 1980);
        due("31: another level", x.store(0, 1006, 1800), 2);
        due("31: a cap is of level 0", x.store(3, x.level(3, 0) - 1, 2100), 3);
        due("31: so its key", x.piece(1, 1), 2131);
        due("31: so its level", x.piece(1, 0), 0);
        due("31: the cap again, by level 1", x.store(1, 8521, 2000), 3);
        due("31: the north cap by level 2", x.store(2, 0, 2000), 4);
        due("31: is there as of level 0", x.drop(0, 0), 2000);
        due("31: year 1799", x.store(0, 1, 1799), -1);
        due("31: year 2101", x.store(0, 1, 2101), -1);
        due("31: key", x.store(0, 2132, 2000), -1);
        due("31: level", x.store(5, 0, 2000), -1);
        due("31: refused ones change nothing", x.count(0), 3);

        due("33: by levels, then keys", x.piece(0, 1), 1006);
        due("33: the deepest last", x.piece(2, 0), 1);
        due("33: beyond", x.piece(3, 0), -2);
        due("33: i NONE", x.piece(-1, 0), -1);
        due("33: what 3", x.piece(0, 3), -1);
        due("33: what -1", x.piece(0, -1), -1);
        due("33: NONE ahead of -2", x.piece(99, 3), -1);

        due("34: two pieces", x.shown(0, 0, 0), 2);
        due("34: the deepest", x.shown(0, 0, 1), 1);
        due("34: the latest", x.shown(0, 0, 2), 1980);
        due("34: one", x.shown(14399, 0, 2), 1800);
        due("34: none", x.shown(14400, 0, 0), 0);
        due("34: none, level", x.shown(14400, 0, 1), -2);
        due("34: none, year", x.shown(14400, 0, 2), -2);
        due("34: a cap", x.shown(-324000, 1295999, 1), 0);
        x.store(4, x.key(-1, 0, 4), 1999);
        due("34: of level 4", x.shown(-1, 0, 1), 4);
        due("34: by that alone", x.shown(-900, 1349, 0), 1);
        due("34: not beside it", x.shown(-901, 1349, 0), 0);
        x.drop(4, x.key(-1, 0, 4));
        due("34: the other cap", x.shown(324000, 0, 0), 0);
        due("34: no place", x.shown(324001, 0, 0), -1);
        due("34: what 3", x.shown(0, 0, 3), -1);
        due("34: what -1", x.shown(0, 0, -1), -1);

        due("32: another level of the same place", x.drop(2, x.key(0, 0, 2)), -2);
        due("32: drop", x.drop(1, 4141), 1980);
        due("32: gone", x.drop(1, 4141), -2);
        due("32: a cap, by any level", x.drop(4, 545281), 2000);
        due("32: key", x.drop(0, -1), -1);
        due("32: level", x.drop(-1, 0), -1);
        due("32: the others stay", x.piece(0, 1), 1006);
        due("32: so many", x.count(0), 1);

        for (int i = 0; i < 60; i++) {
            x.store(0, 1006 + i, 1900 + i);
        }
        due("31: sixty", x.count(0), 60);
        due("31: one too many", x.store(0, 1, 2000), -2);
        due("31: NONE ahead of -2", x.store(0, 1, 2101), -1);
        due("31: in place of one", x.store(0, 1065, 2001), 60);
        due("31: that year", x.piece(59, 2), 2001);
    }

    private static void promises35To39() {
        SheetNames x = new SheetNames();
        dueAll("35: an empty store lacks all", lacks(x, 0, 0, 1295999, 0, 0, 0), 1065, 1006);
        x.store(0, 1006, 1950);
        dueAll("35: has one", lacks(x, 0, 0, 1295999, 21600, 0, 1950), 1065, 1007);
        dueAll("35: too old", lacks(x, 0, 0, 1295999, 0, 0, 1951), 1065, 1006);
        due("35: pieces of it", x.lacks(0, 14399, 0, 21599, 2, 1900, -1), 0);
        due("35: none of them", x.lacks(0, 14399, 0, 21599, 2, 1900, 0), -3);
        x.store(2, x.key(7200, 32400, 2), 2000);
        dueAll("35: a deeper piece has its middle", lacks(x, 0, 0, 0, 21600, 0, 1950));
        dueAll("35: and only that of the sheet", lacks(x, 7200, 7200, 21600, 43199, 1, 1950),
                x.key(7200, 21600, 1), x.key(7200, 32400, 1));
        x.store(0, 0, 2100);
        dueAll("35: a cap", lacks(x, 316799, 324000, 0, 0, 3, 2100), 1);
        due("35: more than 4000", x.lacks(-324000, 324000, 0, 1295999, 1, 0, 0), -2);
        due("35: NONE ahead of -2", x.lacks(-324000, 324000, 0, 1295999, 1, 2101, 0), -1);
        due("35: year -1", x.lacks(0, 0, 0, 0, 0, -1, -1), -1);
        due("35: i below NONE", x.lacks(0, 0, 0, 0, 0, 0, -2), -1);
        due("35: a above b", x.lacks(1, 0, 0, 0, 0, 0, -1), -1);
        due("35: level", x.lacks(0, 0, 0, 0, 5, 0, -1), -1);

        due("36: all", x.years(0, 2100, 0), 3);
        due("36: both ends too", x.years(1950, 2000, 0), 2);
        due("36: the earliest", x.years(1951, 2100, 1), 2000);
        due("36: the latest", x.years(0, 2099, 2), 2000);
        due("36: none", x.years(1951, 1999, 0), 0);
        due("36: none, earliest", x.years(1951, 1999, 1), -2);
        due("36: none, latest", x.years(1951, 1999, 2), -2);
        due("36: the other way round", x.years(2100, 0, 0), 0);
        due("36: from -1", x.years(-1, 2100, 0), -1);
        due("36: to 2101", x.years(0, 2101, 0), -1);
        due("36: what 3", x.years(0, 2100, 3), -1);

        x.store(0, 1007, 1960);
        x.store(0, 1005, 1950);
        due("38: the least key of like ones", x.oldest(0, 0), 1005);
        due("38: year", x.oldest(0, 1), 1950);
        due("38: how many", x.oldest(0, 2), 2);
        due("38: another level", x.oldest(2, 1), 2000);
        due("38: none of a level", x.oldest(1, 0), -2);
        due("38: none of it, how many", x.oldest(1, 2), -2);
        due("38: level", x.oldest(5, 0), -1);
        due("38: what 3", x.oldest(0, 3), -1);
        due("38: NONE ahead of -2", x.oldest(1, -1), -1);

        due("37: renew", x.renew(0, 1960), 2);
        due("37: that year then", x.oldest(0, 2), 3);
        due("37: none is earlier", x.renew(0, 1960), 0);
        due("37: the others stay", x.shown(324000, 0, 2), 2100);
        due("37: another level", x.renew(1, 2100), 0);
        due("37: year 1799", x.renew(0, 1799), -1);
        due("37: year 2101", x.renew(0, 2101), -1);
        due("37: level", x.renew(-1, 2000), -1);

        SheetNames y = new SheetNames();
        due("39: an empty store", y.tidy(), 0);
        y.store(3, 5, 1900);
        due("38: the only one", y.oldest(3, 0), 5);
        due("37: the only one", y.renew(3, 1901), 1);
        due("38: its year", y.oldest(3, 1), 1901);
        y.drop(3, 5);
        y.store(0, 1006, 1950);
        y.store(1, 4141, 1950);
        y.store(1, 4142, 1951);
        y.store(1, 4143, 1900);
        y.store(2, y.key(0, 10800, 2), 1951);
        y.store(2, y.key(0, 0, 2), 1960);
        y.store(4, y.key(0, 0, 4), 1955);
        due("39: tidy", y.tidy(), 3);
        due("39: the same year is gone", y.drop(1, 4141), -2);
        due("39: a later one stays", y.drop(1, 4142), 1951);
        due("39: beside it stays", y.drop(1, 4143), 1900);
        due("39: two levels above", y.drop(4, y.key(0, 0, 4)), -2);
        due("39: by a piece of level 1", y.drop(2, y.key(0, 10800, 2)), -2);
        due("39: a later one of level 2 stays", y.drop(2, y.key(0, 0, 2)), 1960);
        due("39: what shows it stays", y.count(0), 1);
        y.store(0, 0, 1900);
        y.store(0, 2131, 1950);
        due("39: nothing more", y.tidy(), 0);
    }

    private static void promises40To42() {
        SheetNames x = new SheetNames();
        due("40: one change", x.changes(0, 0, 0, 21600, 1, 0), 1);
        due("40: two", x.changes(0, 0, 0, 43200, 2, 0), 2);
        due("40: jumped over", x.changes(0, 0, 0, 43200, 1, 0), 1);
        due("40: westwards, not over lon 0", x.changes(0, 1295999, 0, 0, 60, 0), 59);
        due("40: there and none", x.changes(0, 5, 14399, 5, 200, 0), 0);
        due("40: cut down", x.changes(1, 0, -1, 0, 4, 0), 1);
        due("40: cut down below 0", x.changes(0, 0, -1, 0, 2, 0), 1);
        due("40: cut down, not to the nearest", x.changes(14399, 0, 14400, 0, 200, 0), 1);
        due("40: from pole to pole", x.changes(324000, 0, -324000, 0, 45, 0), 45);
        due("40: deeper", x.changes(0, 0, 0, 21599, 200, 4), 15);
        due("40: n 0", x.changes(0, 0, 0, 0, 0, 0), -1);
        due("40: n 201", x.changes(0, 0, 0, 0, 201, 0), -1);
        due("40: no place", x.changes(0, 0, 0, 1296000, 1, 0), -1);
        due("40: no first place", x.changes(0, -1, 0, 0, 1, 0), -1);
        due("40: level", x.changes(0, 0, 0, 0, 1, 5), -1);

        for (int many = 1; many <= 200; many += 33) {
            for (int seed = -70000; seed < 200000; seed += 65537) {
                due("41: drawn " + seed + " " + many, x.drawn(seed, many, 1), drawn(x, seed, many, 1));
            }
        }
        int unlike = 0;
        for (int seed = 0; seed < 2000; seed++) {
            unlike += x.drawn(seed, 200, 0) == drawn(x, seed, 200, 0) ? 0 : 1;
        }
        due("41: of 2000 seeds so many are wrong", unlike, 0);
        due("41: the lowest 16 bits alone", x.drawn(5 + 65536 * 7, 200, 2), x.drawn(5, 200, 2));
        due("41: one place", x.drawn(-1, 1, 4), 1);
        due("41: n 0", x.drawn(1, 0, 0), -1);
        due("41: n 201", x.drawn(1, 201, 0), -1);
        due("41: level", x.drawn(1, 1, -1), -1);

        due("42: a cap is of no band", x.bands(0, 0, 0), 0);
        due("42: one", x.bands(0, 0, 1), 1);
        due("42: a band's ends", x.bands(0, 15, 16), 2);
        due("42: within", x.bands(0, 16, 30), 1);
        due("42: all", x.bands(2, 0, x.level(2, 0) - 1), 44);
        due("42: the other cap", x.bands(0, 2130, 2131), 1);
        due("42: a band of two rows", x.bands(1, 61, 120), 1);
        due("42: and the next", x.bands(1, 61, 121), 2);
        due("42: from above to", x.bands(0, 2, 1), -1);
        due("42: key", x.bands(0, 0, 2132), -1);
        due("42: key below 0", x.bands(0, -1, 5), -1);
        due("42: level", x.bands(5, 0, 0), -1);
    }

    private static int drawn(SheetNames x, int seed, int many, int level) {
        TreeSet<Integer> unlike = new TreeSet<>();
        long draw = Math.floorMod(seed, 65536);
        for (int i = 0; i < many; i++) {
            draw = (25173 * draw + 13849) % 65536;
            int lat = (int) (draw / 4 % 16384) * 39 - 319488;
            draw = (25173 * draw + 13849) % 65536;
            unlike.add(x.key(lat, (int) (draw / 4 % 16384) * 79, level));
        }
        return unlike.size();
    }

    private static void promises43To45() {
        SheetNames x = new SheetNames();
        named(x, "NA1", 0);
        named(x, "N", 0);
        named(x, "NA0", 0);
        named(x, "X", 0);
        ask(x, "north");
        ask(x, "above NA1");
        x.named(0, 0);
        x.store(0, 5, 2000);
        feed(x, "N");
        int[] want = {1, 20, 0, 2, 4, 2, 1};
        for (int what = 0; what < want.length; what++) {
            due("43: count of " + what, x.count(what), want[what]);
        }
        due("43: what 7", x.count(7), -1);
        due("43: what -1", x.count(-1), -1);

        due("45: nothing is kept", x.undo(), -1);
        due("44: keep", x.keep(), 1);
        due("44: is counted", x.count(2), 1);
        x.store(0, 6, 2001);
        x.store(0, 5, 2002);
        named(x, "NA0", 0);
        feed(x, "NA1bbbbbbbbbbbbbbbbbNA1");
        due("44: another", x.keep(), 2);
        x.drop(0, 5);
        x.drop(0, 6);
        x.cut(1, 3, 3);
        named(x, "NA1-9", 0);
        named(x, "NA0", 0);
        named(x, "N", 0);
        named(x, "NB1", 0);
        feed(x, "NB");
        due("45: undo", x.undo(), 1);
        due("45: the cuts are as they were", x.level(1, 0) + x.level(4, 4), 8522 + 16);
        due("45: the store, too", x.shown(316799, 5 * 86400, 2) + x.piece(0, 2), 2001 + 2002);
        due("45: the tape is not kept", x.count(1), 20);
        due("45: texts without a fault", x.count(3), 2);
        due("45: texts with one", x.count(4), 5);
        due("45: ended too soon", x.count(5), 2);
        due("45: with fault 2", x.count(6), 1);
        due("45: undo again", x.undo(), 0);
        due("45: the first state", x.piece(0, 2), 2000);
        due("45: its pieces", x.count(0), 1);
        due("45: its texts", x.count(3) * 1000 + x.count(4) * 100 + x.count(5) * 10 + x.count(6), 2421);
        due("45: its level", x.piece(0, 0), 0);
        due("45: the tape is as it is", x.named(2, 1), -1002);
        due("45: none is left", x.undo(), -1);
        x.drop(0, 5);
        x.store(2, 77, 1999);
        x.keep();
        x.drop(2, 77);
        x.store(0, 77, 1888);
        named(x, "NB2", 0);
        x.undo();
        due("45: the piece's level", x.piece(0, 0), 2);
        due("45: the piece's year", x.piece(0, 2), 1999);
        due("45: texts without a fault again", x.count(3), 2);
        for (int i = 1; i <= 8; i++) {
            due("44: up to 8", x.keep(), i);
        }
        due("44: a ninth", x.keep(), -1);
        due("44: eight are", x.count(2), 8);
        due("45: seven are left", x.undo(), 7);
        due("44: so one more goes", x.keep(), 8);
        due("1: another object is new", new SheetNames().count(2), 0);
    }
}
