/**
 * Every call that the document refuses, by the promise that refuses it: the last number that is taken and the first that
 * isn't, on both sides; which ERROR is asked first; and that nothing else changes.
 */
public final class RefusedTest {
    private static final int ALL = Edge.ALL;

    public static void main(String[] args) {
        errors();
        limitsOfLandAndVillages();
        limitsOfBottles();
        limitsOfTextsAndDays();
        limitsOfSeeing();
        limitsOfVoicesAndSheets();
        limitsOfTheRest();
        nothingThere();
        villagesAreFull();
        fillIsRefused();
        kindsAndCorks();
        tapeIsFull();
        daysAreOver();
        neverSeen();
        bottlesThatDoNotServe();
        sheetsThatDoNotServe();
        imageAndWaiting();
        onlyThought();
        toldCountsAll();
        Due.end();
    }

    /** Terms: LOW is -1000000000; LOW - 1 BEYOND, LOW - 2 NONE, LOW - 3 STATE, LOW - 4 FULL, LOW - 5 KIND. */
    private static void errors() {
        Due.due("BEYOND", Edge.half().at(9), -1000000001);
        Due.due("NONE", Edge.half().trace(40), -1000000002);
        Due.due("STATE", Edge.half().open(1), -1000000003);
        Due.due("FULL", Edge.full().village(0), -1000000004);
        Due.due("KIND", Edge.half().as(0, 1), -1000000005);
    }

    private static void limitsOfLandAndVillages() {
        Edge.limits("2 land: PLACES", Edge::half, 0, 19, (x, v) -> x.land(v, 0, 7));
        Edge.limits("2 land: PLACES that become MISSING", Edge::half, 0, 19, (x, v) -> x.land(v, 1, 7));
        Edge.limits("2 land: what", Edge::half, 0, 1, (x, v) -> x.land(3, v, 7));
        Edge.limits("2 land: HEIGHT", Edge::half, 0, 20, (x, v) -> x.land(3, 0, v));
        Edge.limits("2 land: MISSING", Edge::half, 0, 99, (x, v) -> x.land(3, 1, v));
        for (int what = 0; what < 6; what++) {
            int asked = what;
            Edge.limits("3 ofPlace: PLACES, what " + what, Edge::half, 0, 19, (x, v) -> x.ofPlace(v, asked));
        }
        Edge.limits("3 ofPlace: what", Edge::half, 0, 5, (x, v) -> x.ofPlace(10, v));
        Edge.limits("4 village: PLACES", Edge::half, 0, 19, (x, v) -> x.village(v));
        Edge.limits("5 moves: VILLAGES", Edge::half, 0, 2, (x, v) -> x.moves(v, 3));
        Edge.limits("5 moves: five VILLAGES", Edge::full, 0, 4, (x, v) -> x.moves(v, 3));
        Edge.limits("5 moves: PLACES", Edge::half, 0, 19, (x, v) -> x.moves(1, v));
        Edge.limits("6 at: VILLAGES", Edge::half, 0, 2, (x, v) -> x.at(v));
        Edge.limits("6 at: five VILLAGES", Edge::full, 0, 4, (x, v) -> x.at(v));
    }

    private static void limitsOfBottles() {
        Edge.limits("7 fill: km", Edge::half, 0, 69, (x, v) -> x.fill(v, 0, 0, Due.set(5)));
        Edge.limits("7 fill: VILLAGES", Edge::half, 0, 2, (x, v) -> x.fill(0, v, 0, Due.set(5)));
        Edge.limits("7 fill: sides", Edge::half, 0, 1, (x, v) -> x.fill(0, 0, v, Due.set(5)));
        Edge.limits("7 fill: sets of PLACES, none being BEYOND", Edge::half, 1, ALL, (x, v) -> x.fill(0, 0, 0, v));
        Edge.limits("8 ofBottle: BOTTLES", Edge::half, 0, 3, (x, v) -> x.ofBottle(v, 0));
        Edge.limits("8 ofBottle: eight BOTTLES", Edge::full, 0, 7, (x, v) -> x.ofBottle(v, 8));
        Edge.limits("8 ofBottle: what", Edge::half, 0, 8, (x, v) -> x.ofBottle(2, v));
        Edge.limits("9 become: BOTTLES", Edge::half, 0, 3, (x, v) -> x.become(v, 55));
        Edge.limits("9 become: eight BOTTLES", Edge::full, 0, 7, (x, v) -> x.become(v, 57));
        Edge.limits("9 become: km", Edge::half, 0, 69, (x, v) -> x.become(1, v));
        Edge.limits("10 as: BOTTLES", Edge::half, 0, 3, (x, v) -> x.as(v, 0));
        Edge.limits("10 as: KINDS, ahead of KIND", Edge::half, 0, 6, (x, v) -> x.as(2, v));
        Edge.limits("11 open: BOTTLES", Edge::half, 0, 3, (x, v) -> x.open(v));
        Edge.limits("11 open: eight BOTTLES", Edge::full, 0, 7, (x, v) -> x.open(v));
    }

    private static void limitsOfTextsAndDays() {
        Edge.limits("12 feed: bytes", Edge::half, 1, 8, (x, v) -> x.feed(0x3131313131313131L, v));
        Edge.limits("12 feed: bytes, ahead of FULL", Edge::full, 1, 8, (x, v) -> x.feed(0x3131313131313131L, v));
        Edge.limits("13 text: USES; THE TAPE stays", Edge::half, 0, 1, (x, v) -> x.text(v));
        Edge.limits("14 law: USES", Edge::half, 0, 1, (x, v) -> x.law(v, 1, 2, 3));
        Edge.limits("15 days: how many", Edge::half, 1, 100, (x, v) -> x.days(v));
        Edge.limits("15 days: how many, ahead of STATE", Edge::full, 1, 100, (x, v) -> x.days(v));
        Edge.limits("16 loose: how many", Edge::half, 1, 40, (x, v) -> x.loose(v));
        Edge.limits("16 loose: how many, ahead of STATE", Edge::full, 1, 40, (x, v) -> x.loose(v));
    }

    private static void limitsOfSeeing() {
        Edge.limits("17 view: VILLAGES", Edge::half, 0, 2, (x, v) -> x.view(v, 0, 0));
        Edge.limits("17 view: sides", Edge::half, 0, 1, (x, v) -> x.view(0, v, 0));
        Edge.limits("17 view: BEHIND", Edge::half, 0, 100, (x, v) -> x.view(0, 0, v));
        Edge.limits("18 again: VILLAGES", Edge::half, 0, 2, (x, v) -> x.again(v, 12));
        Edge.limits("18 again: PLACES", Edge::half, 0, 19, (x, v) -> x.again(0, v));
        Edge.refused("18 again: the PLACE where it is", Edge::half, Due.BEYOND, x -> x.again(0, 10));
        Edge.refused("18 again: the PLACE where another one is", Edge::half, Due.BEYOND, x -> x.again(2, 15));
        Edge.limits("19 best: what", Edge::half, 0, 1, (x, v) -> x.best(v));
        Edge.limits("20 tower: from", Edge::half, 0, 19, (x, v) -> x.tower(v, 9));
        Edge.limits("20 tower: to", Edge::half, 0, 19, (x, v) -> x.tower(9, v));
        for (int place = 0; place < 20; place++) {
            int same = place;
            Edge.refused("20 tower: one and the same " + place, Edge::half, Due.BEYOND, x -> x.tower(same, same));
        }
        Edge.limits("23 cover: sets of PLACES, ahead of NONE", Edge::half, 0, ALL, (x, v) -> x.cover(v));
        Edge.limits("24 keeps: what", Edge::half, 0, 1, (x, v) -> x.keeps(v));
        Edge.limits("25 blend: one", Edge::half, 0, 3, (x, v) -> x.blend(v, v == 0 ? 1 : 0));
        Edge.limits("25 blend: other", Edge::half, 0, 3, (x, v) -> x.blend(v == 0 ? 1 : 0, v));
        for (int bottle = 0; bottle < 4; bottle++) {
            int same = bottle;
            Edge.refused("25 blend: one and the same " + bottle, Edge::half, Due.BEYOND, x -> x.blend(same, same));
        }
        Edge.limits("26 thief: sets of PLACES, none being BEYOND", Edge::half, 1, ALL, (x, v) -> x.thief(v));
    }

    private static void limitsOfVoicesAndSheets() {
        Edge.limits("29 voice: BOTTLES", Edge::half, 0, 3, (x, v) -> x.voice(v, 3, 1));
        Edge.limits("29 voice: acts", Edge::half, 0, 3, (x, v) -> x.voice(3, v, 1));
        // VINTAGE tells: nine BODIES.
        Edge.limits("30 trace", Edge::half, Due.NONE, 0, 8, (x, v) -> x.trace(v));
        Edge.limits("30 trace without a voice", () -> spoken(0), Due.NONE, 0, 0, (x, v) -> x.trace(v));
        Edge.limits("31 sheet: SHEETS", Edge::half, 0, 3, (x, v) -> x.sheet(v, 8, 4));
        Edge.limits("31 sheet: SHEETS that become missing", Edge::half, 0, 3, (x, v) -> x.sheet(v, 0, 4));
        Edge.limits("31 sheet: SHEETS, ahead of STATE", Edge::half, 0, 3, (x, v) -> x.sheet(v, 8, -1));
        for (int bits : new int[] {8, 16, 32}) {
            Due.due("31 sheet: 0 numbers of " + bits + " bits", Edge.half().sheet(1, bits, 0), 1);
            Due.due("31 sheet: 40 numbers of " + bits + " bits", Edge.half().sheet(1, bits, 40), 1);
            for (int n : new int[] {41, 42, 296, Edge.MOST}) {
                Edge.refused("31 sheet: " + n + " numbers of " + bits + " bits", Edge::half, Due.BEYOND,
                    x -> x.sheet(1, bits, n));
            }
            for (int n : new int[] {-1, -2, -41, Edge.LEAST}) {
                Edge.refused("31 sheet: " + n + " numbers of " + bits + " bits", Edge::half, Due.STATE,
                    x -> x.sheet(1, bits, n));
            }
        }
        for (int bits : new int[] {1, 4, 7, 9, 15, 17, 24, 31, 33, 40, 64, 264, -1, -8, -16, -32, Edge.LEAST, Edge.MOST}) {
            Edge.refused("31 sheet: bits " + bits, Edge::half, Due.BEYOND, x -> x.sheet(0, bits, 4));
            Edge.refused("31 sheet: bits " + bits + ", ahead of STATE", Edge::half, Due.BEYOND, x -> x.sheet(0, bits, -1));
        }
        Edge.limits("32 put: SHEETS", Edge::half, 0, 3, (x, v) -> x.put(v, 0, 5));
        Edge.limits("32 put: numbers", Edge::half, 0, 19, (x, v) -> x.put(0, v, 5));
        Edge.limits("32 put: 40 numbers", Edge::full, 0, 39, (x, v) -> x.put(1, v, 5));
        Edge.limits("33 move: SHEETS from", Edge::half, 0, 3, (x, v) -> x.move(v, 0, 0, 0, 1));
        Edge.limits("33 move: SHEETS to", Edge::half, 0, 3, (x, v) -> x.move(0, 0, v, 0, 1));
        Edge.limits("33 move: i", Edge::half, 0, 17, (x, v) -> x.move(0, v, 2, 0, 3));
        Edge.limits("33 move: j", Edge::half, 0, 17, (x, v) -> x.move(2, 0, 0, v, 3));
        Edge.limits("33 move: n by the one", Edge::half, 0, 15, (x, v) -> x.move(0, 5, 0, 0, v));
        Edge.limits("33 move: n by the other", Edge::half, 0, 14, (x, v) -> x.move(0, 0, 0, 6, v));
        Edge.limits("33 move: n of 40", Edge::full, 0, 40, (x, v) -> x.move(1, 0, 1, 0, v));
        Edge.limits("33 move: i of none", Edge::half, 0, 20, (x, v) -> x.move(0, v, 2, 0, 0));
        Edge.limits("33 move: j of none", Edge::half, 0, 20, (x, v) -> x.move(2, 0, 0, v, 0));
        Edge.refused("33 move: n and i wrap", Edge::half, Due.BEYOND, x -> x.move(0, Edge.MOST, 2, 0, Edge.MOST));
        Edge.refused("33 move: n and j wrap", Edge::half, Due.BEYOND, x -> x.move(0, 0, 2, Edge.MOST, Edge.MOST));
        Edge.refused("33 move: i below 0 with so many", Edge::half, Due.BEYOND, x -> x.move(0, -1, 2, 0, 2));
        Edge.refused("33 move: j below 0 with so many", Edge::half, Due.BEYOND, x -> x.move(0, 0, 2, -1, 2));
        Edge.limits("34 heights: SHEETS", Edge::half, 0, 3, (x, v) -> x.heights(v));
        Edge.limits("35 judge: SHEETS", Edge::half, 0, 3, (x, v) -> x.judge(v));
    }

    /** A town whose latest voice began one BODY. */
    private static BottledViews spoken(int x) {
        BottledViews town = Edge.half();
        town.voice(0, 0, x);
        return town;
    }

    private static void limitsOfTheRest() {
        Edge.limits("40 count: what", Edge::half, 0, 9, (x, v) -> x.count(v));
        Edge.limits("41 told: k", Edge::half, 1, 5, (x, v) -> x.told(v));
    }

    /** Promise 1: no VILLAGES, BOTTLES; SHEETS are missing, no IMAGE, no TRACE. */
    private static void nothingThere() {
        Edge.refused("5 moves without VILLAGES", Edge::young, Due.BEYOND, x -> x.moves(0, 0));
        Edge.refused("6 at without VILLAGES", Edge::young, Due.BEYOND, x -> x.at(0));
        Edge.refused("7 fill without VILLAGES", Edge::young, Due.BEYOND, x -> x.fill(0, 0, 1, 2));
        Edge.refused("8 ofBottle without BOTTLES", Edge::young, Due.BEYOND, x -> x.ofBottle(0, 0));
        Edge.refused("9 become without BOTTLES", Edge::young, Due.BEYOND, x -> x.become(0, 0));
        Edge.refused("10 as without BOTTLES", Edge::young, Due.BEYOND, x -> x.as(0, 0));
        Edge.refused("11 open without BOTTLES", Edge::young, Due.BEYOND, x -> x.open(0));
        Edge.refused("17 view without VILLAGES", Edge::young, Due.BEYOND, x -> x.view(0, 0, 0));
        Edge.refused("18 again without VILLAGES", Edge::young, Due.BEYOND, x -> x.again(0, 1));
        Edge.refused("23 cover without BOTTLES", Edge::young, Due.NONE, x -> x.cover(1));
        Edge.refused("25 blend without BOTTLES", Edge::young, Due.BEYOND, x -> x.blend(0, 1));
        Edge.refused("29 voice without BOTTLES", Edge::young, Due.BEYOND, x -> x.voice(0, 0, 0));
        Edge.refused("30 trace without a voice", Edge::young, Due.NONE, x -> x.trace(0));
        for (int sheet = 0; sheet < 4; sheet++) {
            int s = sheet;
            Edge.refused("32 put, missing at first", Edge::young, Due.NONE, x -> x.put(s, 0, 0));
            Edge.refused("33 move, missing at first", Edge::young, Due.NONE, x -> x.move(s, 0, s, 0, 0));
            Edge.refused("34 heights, missing at first", Edge::young, Due.NONE, x -> x.heights(s));
            Edge.refused("35 judge, missing at first", Edge::young, Due.NONE, x -> x.judge(s));
        }
        Edge.refused("37 restore without an IMAGE", Edge::young, Due.NONE, x -> x.restore());
        Edge.refused("37 restore without an IMAGE, later", RefusedTest::withoutImage, Due.NONE, x -> x.restore());
    }

    private static BottledViews withoutImage() {
        BottledViews x = Due.bowl(3);
        x.village(3);
        x.fill(0, 0, 1, Due.set(4));
        x.days(2);
        return x;
    }

    private static BottledViews withVillages(int n) {
        BottledViews x = Due.bowl(10);
        for (int i = 0; i < n; i++) {
            x.village(10);
        }
        return x;
    }

    /** Promise 4: VILLAGES, at most 5. BEYOND. FULL. */
    private static void villagesAreFull() {
        for (int n = 0; n < 5; n++) {
            Due.due("4 village: its number, " + n + " being there", withVillages(n).village(19), n);
        }
        Edge.refused("4 village: FULL", () -> withVillages(5), Due.FULL, x -> x.village(0));
        Edge.refused("4 village: FULL at the other end", Edge::full, Due.FULL, x -> x.village(19));
        Edge.refused("4 village: BEYOND ahead of FULL", Edge::full, Due.BEYOND, x -> x.village(20));
        Edge.refused("4 village: BEYOND ahead of FULL, below", Edge::full, Due.BEYOND, x -> x.village(-1));
    }

    /** Promise 7: BEYOND: also none. STATE: they aren't all in that VIEW. FULL. */
    private static void fillIsRefused() {
        Edge.refused("7 fill: the other side's", Edge::half, Due.STATE, x -> x.fill(0, 0, 0, Due.set(13)));
        Edge.refused("7 fill: the other side's, west", Edge::half, Due.STATE, x -> x.fill(0, 0, 1, Due.set(8)));
        Edge.refused("7 fill: one of two on the other side", Edge::half, Due.STATE, x -> x.fill(0, 0, 0, Due.set(8, 13)));
        Edge.refused("7 fill: where the VILLAGE is", Edge::half, Due.STATE, x -> x.fill(0, 0, 0, Due.set(10)));
        Edge.refused("7 fill: where the VILLAGE is, east", Edge::half, Due.STATE, x -> x.fill(0, 0, 1, Due.set(10)));
        Edge.refused("7 fill: one of two that is MISSING", Edge::half, Due.STATE, x -> x.fill(0, 0, 0, Due.set(7, 8)));
        Edge.refused("7 fill: one that is hidden", Edge::half, Due.STATE, x -> x.fill(0, 1, 0, Due.set(3, 4)));
        Edge.refused("7 fill: all PLACES", Edge::half, Due.STATE, x -> x.fill(0, 0, 1, ALL));
        Edge.refused("7 fill: FULL", Edge::full, Due.FULL, x -> x.fill(0, 0, 0, Due.set(9)));
        Edge.refused("7 fill: STATE ahead of FULL", Edge::full, Due.STATE, x -> x.fill(0, 0, 0, Due.set(11)));
        Edge.refused("7 fill: km ahead of FULL", Edge::full, Due.BEYOND, x -> x.fill(70, 0, 0, Due.set(9)));
        Edge.refused("7 fill: none ahead of FULL", Edge::full, Due.BEYOND, x -> x.fill(0, 0, 0, 0));
        Edge.refused("7 fill: km ahead of STATE", Edge::half, Due.BEYOND, x -> x.fill(70, 0, 0, Due.set(13)));
        Edge.refused("7 fill: the VILLAGE ahead of STATE", Edge::half, Due.BEYOND, x -> x.fill(0, 3, 0, Due.set(13)));
        Edge.refused("7 fill: the side ahead of STATE", Edge::half, Due.BEYOND, x -> x.fill(0, 0, 2, Due.set(10)));
        Edge.refused("7 fill: the set ahead of STATE", Edge::half, Due.BEYOND, x -> x.fill(0, 0, 0, ALL + 1 + 32));
    }

    /** Promises 10 and 11: KIND: it isn't of that KIND, nor of one under it. STATE: it is OPEN. */
    private static void kindsAndCorks() {
        // BOTTLES 0 to 3 are OLD, CUT, BLUE, VINTAGE.
        int[][] unlike = {{0, 1}, {0, 2}, {0, 4}, {0, 5}, {0, 6}, {1, 1}, {1, 3}, {1, 4}, {1, 5}, {1, 6},
            {2, 2}, {2, 3}, {2, 4}, {2, 5}, {2, 6}, {3, 1}, {3, 2}, {3, 4}, {3, 5}};
        for (int[] u : unlike) {
            Edge.refused("10 as: BOTTLE " + u[0] + " as " + u[1], Edge::half, Due.KIND, x -> x.as(u[0], u[1]));
        }
        Edge.refused("11 open: it is OPEN", Edge::half, Due.STATE, x -> x.open(1));
        Edge.refused("11 open: the eighth is OPEN", Edge::full, Due.STATE, x -> x.open(7));
    }

    private static BottledViews withBytes(int n) {
        BottledViews x = new BottledViews();
        for (int i = 0; i < n; i++) {
            x.feed(i % 2 == 0 ? '1' : '+', 1);
        }
        return x;
    }

    /** Promise 12: THE TAPE (bytes, at most 50). BEYOND. FULL. */
    private static void tapeIsFull() {
        for (int n = 1; n <= 8; n++) {
            int bytes = n;
            Due.due("12 feed: " + n + " to 50", withBytes(50 - n).feed(0x3231323132313231L, n), 50);
            Edge.refused("12 feed: " + n + " to 51", () -> withBytes(51 - bytes), Due.FULL,
                x -> x.feed(0x3231323132313231L, bytes));
        }
        Edge.refused("12 feed: 8 to 58", Edge::full, Due.FULL, x -> x.feed(0, 8));
        Edge.refused("12 feed: 9 is BEYOND, ahead of FULL", Edge::full, Due.BEYOND, x -> x.feed(0, 9));
        Edge.refused("12 feed: none is BEYOND, ahead of FULL", Edge::full, Due.BEYOND, x -> x.feed(0, 0));
    }

    /** A town so many DAYS ahead of the last one. */
    private static BottledViews daysLeft(int n) {
        BottledViews x = Due.bowl(10);
        x.village(10);
        for (int i = 0; i < 98; i++) {
            x.days(100);
        }
        x.fill(32, 0, 0, Due.set(4, 5));
        x.land(17, 1, 99);
        x.image();
        x.days(100);
        if (n < 99) {
            x.days(99 - n);
        }
        return x;
    }

    /** Promises 15 and 16: STATE: DAY would be above 9999. */
    private static void daysAreOver() {
        for (int n : new int[] {1, 2, 40, 99}) {
            BottledViews x = daysLeft(n);
            x.days(n);
            Due.due("15 days: " + n + " to 9999", x.count(2), 9999);
            Edge.refused("15 days: " + (n + 1) + " to 10000", () -> daysLeft(n), Due.STATE, y -> y.days(n + 1));
        }
        for (int n : new int[] {1, 2, 39}) {
            BottledViews x = daysLeft(n);
            x.loose(n);
            Due.due("16 loose: " + n + " to 9999", x.count(2), 9999);
            Edge.refused("16 loose: " + (n + 1) + " to 10000", () -> daysLeft(n), Due.STATE, y -> y.loose(n + 1));
        }
        BottledViews forty = daysLeft(40);
        Due.holds("16 loose: 40 to 9999", forty.loose(40) >= 0 && forty.count(2) == 9999);
        Edge.refused("15 days: none is left", Edge::full, Due.STATE, x -> x.days(1));
        Edge.refused("15 days: 100 at the end", Edge::full, Due.STATE, x -> x.days(100));
        Edge.refused("16 loose: none is left", Edge::full, Due.STATE, x -> x.loose(1));
        Edge.refused("16 loose: 40 at the end", Edge::full, Due.STATE, x -> x.loose(40));
        Edge.refused("15 days: BEYOND ahead of STATE", Edge::full, Due.BEYOND, x -> x.days(101));
        Edge.refused("16 loose: BEYOND ahead of STATE", Edge::full, Due.BEYOND, x -> x.loose(41));
    }

    /** A flat land with a VILLAGE AT 5 and a hill between 7 and 9. */
    private static BottledViews hill() {
        BottledViews x = Due.landOf();
        x.village(5);
        x.land(8, 0, 20);
        x.land(12, 1, 1);
        x.image();
        return x;
    }

    /** Promises 18 and 20: NONE: not by 100; not by 40 (or it is MISSING). */
    private static void neverSeen() {
        Edge.refused("18 again: behind a hill", RefusedTest::hill, Due.NONE, x -> x.again(0, 9));
        Edge.refused("18 again: on the flat", RefusedTest::hill, Due.NONE, x -> x.again(0, 0));
        Edge.refused("20 tower: 41", RefusedTest::hill, Due.NONE, x -> x.tower(7, 9));
        Edge.refused("20 tower: it is MISSING", RefusedTest::hill, Due.NONE, x -> x.tower(11, 12));
        Edge.refused("20 tower: it is MISSING, from the east", RefusedTest::hill, Due.NONE, x -> x.tower(19, 12));
    }

    /** Promises 23 and 25: NONE: by none. STATE: they don't join. */
    private static void bottlesThatDoNotServe() {
        // LEFT: OLD 2, 6, 9; the second is OPEN; BLUE 14; VINTAGE 7.
        Edge.refused("23 cover: one that is in none", Edge::half, Due.NONE, x -> x.cover(Due.set(0)));
        Edge.refused("23 cover: one of two is in none", Edge::half, Due.NONE, x -> x.cover(Due.set(2, 19)));
        Edge.refused("23 cover: what the OPEN one held", Edge::half, Due.NONE, x -> x.cover(Due.set(12)));
        Edge.refused("23 cover: what the CUT one showed, it being OPEN", Edge::half, Due.NONE, x -> x.cover(Due.set(3)));
        Edge.refused("23 cover: what BLUE lets go", Edge::half, Due.NONE, x -> x.cover(Due.set(11)));
        Edge.refused("23 cover: all", Edge::half, Due.NONE, x -> x.cover(ALL));
        Edge.refused("25 blend: they don't touch", Edge::half, Due.STATE, x -> x.blend(0, 2));
        Edge.refused("25 blend: one is OPEN", Edge::half, Due.STATE, x -> x.blend(1, 0));
        Edge.refused("25 blend: the other is OPEN", Edge::half, Due.STATE, x -> x.blend(3, 1));
        Edge.refused("25 blend: one is LEFT in both", RefusedTest::shared, Due.STATE, x -> x.blend(0, 1));
        Edge.refused("25 blend: all is LEFT in both", RefusedTest::shared, Due.STATE, x -> x.blend(1, 2));
    }

    /** BOTTLES with 5, 6; 6, 7; 6, 7. */
    private static BottledViews shared() {
        BottledViews x = Due.bowl(10);
        x.village(10);
        x.fill(0, 0, 0, Due.set(5, 6));
        x.land(6, 1, 0);
        x.fill(0, 0, 0, Due.set(6, 7));
        x.land(6, 1, 0);
        x.land(7, 1, 0);
        x.fill(0, 0, 0, Due.set(6, 7));
        return x;
    }

    /** Promises 31 to 35: BEYOND, NONE, KIND, BEYOND, in this order. */
    private static void sheetsThatDoNotServe() {
        Edge.refused("32 put: NONE", Edge::half, Due.NONE, x -> x.put(3, 0, 1));
        Edge.refused("32 put: NONE ahead of BEYOND of the number", Edge::half, Due.NONE, x -> x.put(3, -1, 1));
        Edge.refused("32 put: into one without numbers", RefusedTest::emptySheet, Due.BEYOND, x -> x.put(0, 0, 1));
        Edge.refused("33 move: the one is missing", Edge::half, Due.NONE, x -> x.move(3, 0, 0, 0, 1));
        Edge.refused("33 move: the other is missing", Edge::half, Due.NONE, x -> x.move(0, 0, 3, 0, 1));
        Edge.refused("33 move: both are missing", Edge::half, Due.NONE, x -> x.move(3, 0, 3, 0, 0));
        Edge.refused("33 move: no such one ahead of NONE", Edge::half, Due.BEYOND, x -> x.move(4, 0, 3, 0, 1));
        Edge.refused("33 move: no such other ahead of NONE", Edge::half, Due.BEYOND, x -> x.move(3, 0, -1, 0, 1));
        Edge.refused("33 move: NONE ahead of KIND", Edge::half, Due.NONE, x -> x.move(1, 0, 3, 0, 1));
        Edge.refused("33 move: NONE ahead of the numbers", Edge::half, Due.NONE, x -> x.move(0, -1, 3, -1, -1));
        Edge.refused("33 move: unlike bits", Edge::half, Due.KIND, x -> x.move(0, 0, 1, 0, 1));
        Edge.refused("33 move: unlike bits the other way", Edge::half, Due.KIND, x -> x.move(1, 0, 0, 0, 1));
        Edge.refused("33 move: unlike bits, none moved", Edge::half, Due.KIND, x -> x.move(1, 0, 2, 0, 0));
        Edge.refused("33 move: 8 and 32 bits", Edge::full, Due.KIND, x -> x.move(1, 0, 2, 0, 40));
        Edge.refused("33 move: KIND ahead of n", Edge::half, Due.KIND, x -> x.move(0, 0, 1, 0, -1));
        Edge.refused("33 move: KIND ahead of i", Edge::half, Due.KIND, x -> x.move(0, -1, 1, 0, 1));
        Edge.refused("33 move: KIND ahead of j", Edge::half, Due.KIND, x -> x.move(0, 0, 1, 5, 1));
        Edge.refused("33 move: out of one without numbers", RefusedTest::emptySheet, Due.BEYOND, x -> x.move(0, 0, 1, 0, 1));
        Edge.refused("33 move: into one without numbers", RefusedTest::emptySheet, Due.BEYOND, x -> x.move(1, 0, 0, 0, 1));
        Edge.refused("34 heights: NONE", Edge::half, Due.NONE, x -> x.heights(3));
        Edge.refused("35 judge: NONE", Edge::half, Due.NONE, x -> x.judge(3));
    }

    /** SHEET 0 has no numbers, but is there. */
    private static BottledViews emptySheet() {
        BottledViews x = Edge.half();
        x.sheet(0, 8, 0);
        x.sheet(1, 8, 2);
        return x;
    }

    /** Promise 38: FULL: 20 wait. */
    private static void imageAndWaiting() {
        Edge.refused("38 tell: 20 wait", Edge::full, Due.FULL, x -> x.tell(0));
        Edge.refused("38 tell: 20 wait, any number", Edge::full, Due.FULL, x -> x.tell(Edge.LEAST));
    }

    /** Terms 3: all this is only thought; and what only asks changes nothing. */
    private static void onlyThought() {
        for (int i = 0; i < 20; i++) {
            int place = i;
            for (int what = 0; what < 6; what++) {
                int asked = what;
                Edge.onlyThought("3 ofPlace", Edge::half, x -> x.ofPlace(place, asked));
            }
            Edge.onlyThought("26 thief", Edge::half, x -> x.thief(1 << place));
        }
        for (int what = 0; what < 9; what++) {
            int asked = what;
            Edge.onlyThought("8 ofBottle", Edge::half, x -> x.ofBottle(2, asked));
            Edge.onlyThought("40 count", Edge::half, x -> x.count(asked));
        }
        for (int n : new int[] {0, 1, 50, 100}) {
            Edge.onlyThought("17 view", Edge::half, x -> x.view(0, 1, n));
            Edge.onlyThought("17 view, DAY beyond 9999", Edge::full, x -> x.view(0, 1, n));
        }
        Edge.onlyThought("6 at", Edge::half, x -> x.at(1));
        Edge.onlyThought("10 as", Edge::half, x -> x.as(3, 3));
        Edge.onlyThought("14 law", Edge::half, x -> x.law(0, 1, 2, 3));
        Edge.onlyThought("18 again", Edge::half, x -> x.again(0, 0));
        Edge.onlyThought("18 again, DAY beyond 9999", Edge::full, x -> x.again(0, 17));
        Edge.onlyThought("19 best", Edge::half, x -> x.best(0));
        Edge.onlyThought("20 tower", Edge::half, x -> x.tower(4, 19));
        Edge.onlyThought("21 mutual", Edge::half, x -> x.mutual());
        Edge.onlyThought("22 unseen", Edge::half, x -> x.unseen());
        Edge.onlyThought("23 cover", Edge::half, x -> x.cover(Due.set(2, 7)));
        Edge.onlyThought("24 keeps", Edge::half, x -> x.keeps(1));
        Edge.onlyThought("25 blend", Edge::half, x -> x.blend(0, 3));
        Edge.onlyThought("27 both", Edge::half, x -> x.both());
        Edge.onlyThought("30 trace", Edge::half, x -> x.trace(0));
        Edge.onlyThought("33 move of none", Edge::half, x -> x.move(0, 20, 2, 3, 0));
        Edge.onlyThought("34 heights of none", RefusedTest::emptySheet, x -> x.heights(0));
        Edge.onlyThought("35 judge", Edge::half, x -> x.judge(0));
        Edge.onlyThought("41 told", Edge::half, x -> x.told(5));
    }

    /** Promise 41: how many acts have answered an ERROR LOW - k; another k is BEYOND, and counted, too. */
    private static void toldCountsAll() {
        BottledViews x = new BottledViews();
        int beyond = 0;
        for (int k : new int[] {0, 6, -1, Edge.LEAST, Edge.MOST, Due.BEYOND}) {
            Due.due("41 told(" + k + ")", x.told(k), Due.BEYOND);
            beyond++;
            Due.due("41 told counts itself", x.told(1), beyond);
        }
        for (int i = 1; i <= 100; i++) {
            x.restore();
            x.trace(0);
        }
        Due.due("41 told counts on", x.told(2), 200);
        Due.due("41 told: others stay", x.told(1) + x.told(3) + x.told(4) + x.told(5), beyond);
        x.seed(Due.KIND);
        x.seed(1);
        Due.due("28 seed's answer is no ERROR", x.told(5), 0);
    }
}
