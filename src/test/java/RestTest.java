/** Promises 28 to 41: draws, voices, sheets, images, what is told. */
public final class RestTest {
    public static void main(String[] args) {
        seed();
        voice();
        voiceOfOtherNumbers();
        trace();
        sheet();
        put();
        move();
        heights();
        judge();
        image();
        imageLeavesOut();
        check();
        count();
        told();
        Due.end();
    }

    private static BottledViews bottled(int bottles) {
        BottledViews x = Due.bowl(10);
        x.village(10);
        for (int i = 0; i < bottles; i++) {
            x.fill(0, 0, 1, Due.set(11 + i));
        }
        return x;
    }

    private static void seed() {
        BottledViews x = new BottledViews();
        Due.due("1 at first", x.seed(Due.STATE), 1);
        Due.due("any number", x.seed(Integer.MIN_VALUE), Due.STATE);
        Due.due("it is z", x.count(9), Integer.MIN_VALUE);
        Due.due("no ERROR is counted", x.told(3), 0);
    }

    private static void voice() {
        BottledViews x = bottled(3);
        // BOTTLE 2, so n is 2; by KIND with m 5: pours(4), costs(4), ages(4), tells(4).
        int[][] want = {
            {6, 12, -1, 12 ^ -1},
            {18, 36, -1, 36 ^ -1},
            {6, 12 - -4, -1, 16 ^ -1},
            {6, 12, 1, 12 ^ 1},
            {18, 36, -1, (36 ^ -1) - 12},
            {6, 14 - -4, -1, 18 ^ -1},
            {6, 12, 1 ^ 2, 12 - (12 ^ 3)},
        };
        for (int kind = 0; kind < 7; kind++) {
            x.become(2, 10 * kind + 5);
            for (int act = 0; act < 4; act++) {
                Due.due("KIND " + kind + " voice " + act, x.voice(2, act, 4), want[kind][act]);
            }
        }
        Due.due("VINTAGE ages: 2 ^ 2", x.voice(2, 2, 3), 0);
        x.become(2, 0);
        Due.due("ints go round", x.voice(2, 0, Integer.MAX_VALUE), Integer.MIN_VALUE + 1);
        Due.due("bottle 3", x.voice(3, 0, 0), Due.BEYOND);
        Due.due("bottle -1", x.voice(-1, 0, 0), Due.BEYOND);
        Due.due("act 4", x.voice(0, 4, 0), Due.BEYOND);
        Due.due("act -1", x.voice(0, -1, 0), Due.BEYOND);
    }

    private static void voiceOfOtherNumbers() {
        BottledViews x = bottled(8);
        Due.due("n is the BOTTLE's number", x.voice(7, 0, 100), 107);
        x.become(7, 9);
        Due.due("m as told", x.voice(7, 2, 100), 91);
        Due.due("any number is no ERROR", x.voice(7, 0, Due.BEYOND - 7), Due.BEYOND);
        Due.due("not counted", x.told(1), 0);
    }

    private static void traceIs(BottledViews x, int kind, int act, int... want) {
        x.become(0, 10 * kind);
        x.voice(0, act, 1);
        Due.due("BODIES of KIND " + kind + " voice " + act, x.count(8), want.length);
        for (int i = 0; i < want.length; i++) {
            Due.due("KIND " + kind + " voice " + act + " trace(" + i + ")", x.trace(i), want[i]);
        }
        Due.due("behind the last", x.trace(want.length), Due.NONE);
    }

    private static void trace() {
        BottledViews x = bottled(1);
        Due.due("none at first", x.trace(0), Due.NONE);
        traceIs(x, 0, 3, 13, 11, 10, 12);
        traceIs(x, 1, 0, 20, 10);
        traceIs(x, 1, 3, 13, 11, 20, 10, 12);
        traceIs(x, 2, 1, 30, 11, 10, 12);
        traceIs(x, 3, 2, 40, 12);
        traceIs(x, 4, 3, 50, 13, 11, 20, 10, 12, 20, 10);
        traceIs(x, 5, 1, 60, 30, 11, 10, 12);
        traceIs(x, 6, 2, 70, 40, 12);
        traceIs(x, 6, 3, 71, 11, 10, 13, 11, 10, 70, 40, 12);
        Due.due("an ERROR", x.voice(0, 4, 0), Due.BEYOND);
        Due.due("leaves THE TRACE", x.trace(0), 71);
        Due.due("trace(-1)", x.trace(-1), Due.NONE);
        Due.due("trace(40)", x.trace(40), Due.NONE);
        Due.due("trace of the largest", x.trace(Integer.MAX_VALUE), Due.NONE);
    }

    private static void sheet() {
        BottledViews x = new BottledViews();
        Due.due("40 numbers", x.sheet(0, 8, 40), 1);
        Due.due("0 numbers", x.sheet(3, 32, 0), 1);
        Due.due("an empty one is there", x.heights(3), 0);
        Due.due("sheet 4", x.sheet(4, 8, 1), Due.BEYOND);
        Due.due("sheet -1", x.sheet(-1, 8, 1), Due.BEYOND);
        Due.due("bits 7", x.sheet(0, 7, 1), Due.BEYOND);
        Due.due("bits -8", x.sheet(0, -8, 1), Due.BEYOND);
        Due.due("bits 64", x.sheet(0, 64, 1), Due.BEYOND);
        Due.due("41 numbers", x.sheet(0, 8, 41), Due.BEYOND);
        Due.due("-1 numbers", x.sheet(0, 8, -1), Due.STATE);
        Due.due("BEYOND of the SHEET ahead of STATE", x.sheet(4, 8, -1), Due.BEYOND);
        Due.due("BEYOND of the bits ahead of STATE", x.sheet(0, 9, -1), Due.BEYOND);
        Due.due("it stays as it was", x.put(0, 39, 1), 1);
        Due.due("missing, n doesn't matter", x.sheet(0, 0, -5), 1);
        Due.due("missing", x.put(0, 0, 1), Due.NONE);
        Due.due("missing, n 99", x.sheet(1, 0, 99), 1);
        x.sheet(2, 16, 2);
        x.put(2, 0, 9);
        x.sheet(2, 16, 2);
        x.heights(2);
        Due.due("all 0 anew", x.ofPlace(0, 0), 0);
    }

    private static void put() {
        BottledViews x = new BottledViews();
        Due.due("sheet 4", x.put(4, 0, 0), Due.BEYOND);
        Due.due("sheet -1", x.put(-1, 0, 0), Due.BEYOND);
        Due.due("missing", x.put(0, 0, 0), Due.NONE);
        Due.due("missing, ahead of the number", x.put(0, 99, 0), Due.NONE);
        x.sheet(0, 8, 3);
        x.sheet(1, 16, 3);
        x.sheet(2, 32, 3);
        Due.due("i 3", x.put(0, 3, 0), Due.BEYOND);
        Due.due("i -1", x.put(0, -1, 0), Due.BEYOND);
        int v = 65536 + 256 + 7;
        Due.due("put", x.put(0, 0, v), 1);
        Due.due("8 bits of it", x.heights(0), 3);
        Due.due("7", x.ofPlace(0, 0), 7);
        x.put(1, 0, v);
        Due.due("16 bits of it are too high", x.heights(1), 0);
        x.put(1, 0, 65536 + 8);
        x.heights(1);
        Due.due("8", x.ofPlace(0, 0), 8);
        x.put(2, 0, 65536 + 9);
        Due.due("32 bits of it are too high", x.heights(2), 0);
        x.put(0, 1, -1);
        Due.due("-1 is no HEIGHT", x.heights(0), 1);
    }

    /** The numbers of a SHEET, by way of the HEIGHTS. */
    private static void sheetIs(BottledViews x, int sheet, int... want) {
        x.heights(sheet);
        for (int i = 0; i < want.length; i++) {
            Due.due("number " + i + " of SHEET " + sheet, x.ofPlace(i, 0), want[i]);
        }
    }

    private static void move() {
        BottledViews x = new BottledViews();
        x.sheet(0, 8, 6);
        x.sheet(1, 8, 4);
        x.sheet(2, 16, 6);
        for (int i = 0; i < 6; i++) {
            x.put(0, i, i + 1);
        }
        Due.due("onto itself, up", x.move(0, 0, 0, 1, 5), 5);
        sheetIs(x, 0, 1, 1, 2, 3, 4, 5);
        Due.due("onto itself, down", x.move(0, 2, 0, 0, 4), 4);
        sheetIs(x, 0, 2, 3, 4, 5, 4, 5);
        Due.due("to another one", x.move(0, 1, 1, 2, 2), 2);
        sheetIs(x, 1, 0, 0, 3, 4);
        sheetIs(x, 0, 2, 3, 4, 5, 4, 5);
        Due.due("none", x.move(0, 6, 1, 4, 0), 0);
        int[][] beyond = {{4, 0, 0, 0, 1}, {0, 0, 4, 0, 1}, {-1, 0, 0, 0, 1}, {0, 0, -1, 0, 1}, {0, 0, 1, 0, -1},
            {0, -1, 1, 0, 1}, {0, 0, 1, -1, 1}, {0, 5, 1, 0, 2}, {0, 0, 1, 3, 2}, {0, 0, 1, 0, 5}, {0, 0, 0, 0, 7},
            {0, 1, 1, 0, Integer.MAX_VALUE}, {0, Integer.MAX_VALUE, 1, 0, 1}, {0, 0, 1, Integer.MAX_VALUE, 1}};
        for (int[] b : beyond) {
            Due.due("move BEYOND", x.move(b[0], b[1], b[2], b[3], b[4]), Due.BEYOND);
        }
        Due.due("the second is missing", x.move(0, 0, 3, 0, 1), Due.NONE);
        Due.due("the first is missing", x.move(3, 0, 0, 0, 1), Due.NONE);
        Due.due("NONE ahead of the numbers", x.move(3, -1, 0, 0, 1), Due.NONE);
        Due.due("no such SHEET ahead of NONE", x.move(3, 0, 4, 0, 1), Due.BEYOND);
        Due.due("unlike bits", x.move(0, 0, 2, 0, 1), Due.KIND);
        Due.due("KIND ahead of the numbers", x.move(0, 0, 2, 0, 99), Due.KIND);
        sheetIs(x, 1, 0, 0, 3, 4);
    }

    private static void heights() {
        BottledViews x = new BottledViews();
        Due.due("sheet 4", x.heights(4), Due.BEYOND);
        Due.due("sheet -1", x.heights(-1), Due.BEYOND);
        Due.due("missing", x.heights(0), Due.NONE);
        x.sheet(0, 32, 3);
        x.put(0, 0, 20);
        x.put(0, 1, 1);
        Due.due("three", x.heights(0), 3);
        Due.due("20", x.ofPlace(0, 0), 20);
        Due.due("0", x.ofPlace(2, 0), 0);
        Due.due("the rest stays", x.ofPlace(3, 0), 5);
        x.put(0, 0, 4);
        x.put(0, 1, 21);
        x.put(0, 2, 9);
        Due.due("up to the first", x.heights(0), 1);
        Due.due("the one ahead of it", x.ofPlace(0, 0), 4);
        Due.due("it stays", x.ofPlace(1, 0), 1);
        Due.due("so does the one behind", x.ofPlace(2, 0), 0);
        x.sheet(1, 8, 40);
        Due.due("as many as there are PLACES", x.heights(1), 20);
        Due.due("no ERRORS but three", x.told(1) + x.told(2), 3);
    }

    private static void judge() {
        BottledViews x = new BottledViews();
        Due.due("sheet 4", x.judge(4), Due.BEYOND);
        Due.due("sheet -1", x.judge(-1), Due.BEYOND);
        Due.due("missing", x.judge(0), Due.NONE);
        x.sheet(0, 8, 20);
        Due.due("all are", x.judge(0), -1);
        x.land(19, 1, 99);
        Due.due("the last isn't", x.judge(0), 19);
        x.put(0, 19, 99);
        Due.due("all are again", x.judge(0), -1);
        x.put(0, 0, 1);
        Due.due("the first isn't", x.judge(0), 0);
        x.land(19, 1, 0);
        x.sheet(0, 8, 19);
        Due.due("one lacks", x.judge(0), 19);
        x.sheet(0, 8, 21);
        Due.due("one is too many", x.judge(0), 20);
        x.sheet(0, 8, 0);
        Due.due("all lack", x.judge(0), 0);
    }

    private static void image() {
        BottledViews x = bottled(2);
        x.land(3, 1, 50);
        x.days(4);
        Due.text(x, 0, "11");
        Due.text(x, 1, "12");
        Due.feed(x, "h+");
        x.seed(77);
        x.tell(8);
        Due.due("once", x.image(), 1);

        x.land(3, 0, 20);
        x.land(3, 1, 0);
        x.moves(0, 2);
        x.village(9);
        x.open(0);
        x.become(1, 65);
        x.fill(0, 1, 0, Due.set(8));
        Due.text(x, 0, "1");
        Due.text(x, 0, "13");
        Due.text(x, 1, "14");
        Due.feed(x, "d");
        x.loose(7);
        x.check();
        Due.due("restore", x.restore(), 4);
        Due.due("HEIGHT", x.ofPlace(3, 0), 6);
        Due.due("MISSING", x.ofPlace(3, 1), 46);
        Due.due("VILLAGES", x.count(0), 1);
        Due.due("AT", x.at(0), 10);
        Due.due("BOTTLES", x.count(1), 2);
        Due.due("OPEN", x.ofBottle(0, 5), 0);
        Due.due("HOLDS", x.ofBottle(0, 3), Due.set(11));
        Due.due("KIND", x.ofBottle(1, 0), 0);
        Due.due("m", x.ofBottle(1, 1), 0);
        Due.due("FROM", x.ofBottle(1, 2), 10);
        Due.due("AGE", x.ofBottle(1, 4), 4);
        Due.due("DAY", x.count(2), 4);
        Due.due("z", x.count(9), 77);
        Due.due("GROWS", x.law(0, 0, 0, 0), 11);
        Due.due("COSTS", x.law(1, 0, 0, 0), 12);
        Due.due("THE TAPE", x.count(6), 2);
        Due.feed(x, "1");
        Due.due("its bytes", x.text(0), 1);
        Due.due("h+1", x.law(0, 7, 0, 0), 8);
        Due.due("numbers that wait", x.count(7), 1);
        x.check();
        x.tell(9);
        x.restore();
        Due.due("the number itself: 8 are not MISSING behind a DAY", x.check(), 1);
        x.tell(1);
        x.image();
        x.check();
        x.tell(9);
        x.restore();
        Due.due("the number itself: 1 is MISSING behind a DAY", x.check(), 0);
        Due.due("all this", x.count(2), 4);

        x.days(3);
        Due.due("it stays", x.restore(), 4);
        Due.due("GROWS once more", x.law(0, 0, 0, 0), 11);
        x.days(3);
        Due.due("a third time", x.image(), 3);
        x.days(3);
        Due.due("in place of the one ahead", x.restore(), 7);
    }

    private static void imageLeavesOut() {
        BottledViews x = bottled(1);
        x.sheet(0, 8, 20);
        x.voice(0, 0, 0);
        x.at(9);
        x.image();
        x.put(0, 0, 9);
        x.sheet(1, 8, 1);
        x.voice(0, 3, 0);
        x.at(9);
        x.image();
        x.image();
        x.restore();
        Due.due("SHEETS stay", x.heights(0), 20);
        Due.due("their numbers, too", x.ofPlace(0, 0), 9);
        Due.due("THE TRACE stays", x.trace(0), 13);
        Due.due("what told() tells stays", x.told(1), 2);
        Due.due("how often it was done stays", x.image(), 4);
        BottledViews none = new BottledViews();
        none.days(5);
        Due.due("none", none.restore(), Due.NONE);
        Due.due("DAY stays", none.count(2), 5);
    }

    private static void check() {
        BottledViews x = new BottledViews();
        Due.due("none wait", x.check(), 0);
        x.land(0, 1, 1);
        x.land(1, 1, 2);
        x.land(2, 1, 2);
        x.land(3, 1, 4);
        int[] behind = {3, 1, 1, 0, 0};
        for (int i = 0; i < behind.length; i++) {
            Due.due("tell", x.tell(behind[i]), i + 1);
        }
        Due.due("five wait", x.count(7), 5);
        Due.due("all are so", x.check(), 0);
        Due.due("none wait then", x.count(7), 0);
        x.tell(3);
        x.tell(1);
        x.tell(9);
        x.tell(9);
        Due.due("1 and the place", x.check(), 3);
        Due.due("none wait behind a wrong one", x.count(7), 0);
        Due.due("MISSING stays", x.count(3), 4);
        for (int i = 1; i <= 20; i++) {
            Due.due("tell " + i, x.tell(0), i);
        }
        Due.due("20 wait", x.tell(0), Due.FULL);
        Due.due("20 stay", x.count(7), 20);
        Due.due("the first isn't", x.check(), 1);
        Due.due("any number waits", x.tell(Integer.MIN_VALUE), 1);
    }

    private static void count() {
        BottledViews x = bottled(3);
        x.village(2);
        x.become(1, 50);
        x.open(0);
        x.days(2);
        x.land(0, 1, 9);
        Due.feed(x, "abc");
        x.tell(1);
        x.voice(0, 3, 0);
        x.seed(-5);
        // COSTS: 0 for the OPEN one, 1 for the FORGED one, 2 + 3 for the WHITE one; PLACES 0, 12 and 13 are MISSING.
        int[] want = {2, 3, 2, 3, 1, 6, 3, 1, 4, -5};
        for (int what = 0; what < want.length; what++) {
            Due.due("count(" + what + ")", x.count(what), want[what]);
        }
        Due.due("count(10)", x.count(10), Due.BEYOND);
        Due.due("count(-1)", x.count(-1), Due.BEYOND);
        Due.due("counted", x.told(1), 2);
    }

    private static void told() {
        BottledViews x = new BottledViews();
        x.village(0);
        x.land(1, 0, 9);
        x.fill(0, 0, 1, 2);
        for (int k = 1; k <= 5; k++) {
            Due.due("none yet", x.told(k), 0);
        }
        x.at(1);
        x.trace(0);
        x.trace(0);
        x.fill(0, 0, 0, 1);
        x.open(0);
        x.open(0);
        x.open(0);
        for (int i = 0; i < 8; i++) {
            x.feed(0, 8);
        }
        for (int i = 0; i < 5; i++) {
            x.as(0, 1);
        }
        int[] want = {0, 1, 2, 3, 2, 5};
        for (int k = 1; k <= 5; k++) {
            Due.due("told(" + k + ")", x.told(k), want[k]);
        }
        Due.due("told(0)", x.told(0), Due.BEYOND);
        Due.due("told(6)", x.told(6), Due.BEYOND);
        Due.due("told(-1)", x.told(-1), Due.BEYOND);
        Due.due("counted, too", x.told(1), 4);
    }
}
