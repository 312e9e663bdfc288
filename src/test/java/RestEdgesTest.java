import java.util.List;

/** The edges of promises 28 to 41: z, VOICES, THE TRACE, SHEETS, IMAGES, what waits, counts. */
public final class RestEdgesTest {
    private static final int LEAST = Edge.LEAST;
    private static final int MOST = Edge.MOST;
    private static final int[] ANY = {0, 1, -1, 7, -7, 65536, LEAST, LEAST + 1, MOST, MOST - 1, 1 << 30, Due.BEYOND};

    public static void main(String[] args) {
        seedIsAnyNumber();
        voicesGoRound();
        voicesOfTheLastBottle();
        voicesOfAnOpenBottle();
        traceOfEachKind();
        traceIsTheLatest();
        sheetsOfAllBits();
        sheetsAreApart();
        sheetBecomesMissing();
        sheetIsAllNothing();
        putTakesTheLowestBits();
        putAtTheEnds();
        moveAsTheyAllWere();
        moveNoneAndAll();
        moveBetweenSheets();
        heightsUpToTheFirst();
        heightsForWhichThereIsNoPlace();
        judgeLacksAndTooMany();
        judgeByBits();
        imageInPlaceOfOneAhead();
        imageOfNothing();
        imageKeepsAll();
        restoreLeavesOut();
        restoreAgainAndAgain();
        tellUntilTwenty();
        checkFromTheFirstToTheLast();
        checkOfNone();
        countsOfTheEmptyAndTheFull();
        Due.end();
    }

    private static BottledViews bottled(int bottles) {
        BottledViews x = Due.bowl(10);
        x.village(10);
        for (int i = 0; i < bottles; i++) {
            x.fill(0, 0, 1, Due.set(11 + i));
        }
        return x;
    }

    /** Promise 28: z becomes v: what it was (any number). */
    private static void seedIsAnyNumber() {
        BottledViews x = new BottledViews();
        int before = 1;
        for (int v : ANY) {
            Due.due("seed(" + v + ")", x.seed(v), before);
            Due.due("count(9)", x.count(9), v);
            before = v;
        }
        for (int k = 1; k <= 5; k++) {
            x.seed(Due.LOW - k);
            Due.due("count(9), as an ERROR looks", x.count(9), Due.LOW - k);
            Due.due("seed, as an ERROR looks", x.seed(0), Due.LOW - k);
            Due.due("is none", x.told(k), 0);
        }
    }

    /** The VOICES by KIND, written out: n is the number, m as told. */
    private static int said(int kind, int act, int x, int n, int m) {
        int pours = kind == 1 || kind == 4 ? (x + n) * 3 : x + n;
        int ages = kind == 3 ? -(x - m) : kind == 6 ? -(x - m) ^ n : x - m;
        if (act == 0) {
            return pours;
        }
        if (act == 2) {
            return ages;
        }
        int costs = pours * 2;
        if (kind == 2) {
            costs = (x + n) * 2 - (1 - m);
        }
        if (kind == 5) {
            costs = (x + 1 + n) * 2 - (1 - m);
        }
        if (act == 1) {
            return costs;
        }
        if (kind == 4) {
            return (costs ^ ages) - (2 + n) * 3;
        }
        return kind == 6 ? costs - (costs ^ ages) : costs ^ ages;
    }

    /** Promise 29: ints that go round; any number. */
    private static void voicesGoRound() {
        for (int bottle : new int[] {0, 2}) {
            for (int kind = 0; kind < 7; kind++) {
                for (int m : new int[] {0, 9}) {
                    BottledViews x = bottled(3);
                    x.become(bottle, 10 * kind + m);
                    for (int act = 0; act < 4; act++) {
                        for (int v : ANY) {
                            String what = "BOTTLE " + bottle + " KIND " + kind + " m " + m + " voice " + act + " of " + v;
                            Due.due(what, x.voice(bottle, act, v), said(kind, act, v, bottle, m));
                        }
                    }
                    Due.due("no ERRORS", x.told(1), 0);
                }
            }
        }
        BottledViews x = bottled(2);
        Due.due("MOST and 1", x.voice(1, 0, MOST), LEAST);
        x.become(1, 9);
        Due.due("LEAST less 9", x.voice(1, 2, LEAST), MOST - 8);
        x.become(1, 30);
        Due.due("OLD: less LEAST is LEAST", x.voice(1, 2, LEAST), LEAST);
        x.become(1, 10);
        Due.due("BLUE: three times MOST", x.voice(1, 0, MOST - 1), MOST * 3);
    }

    private static void voicesOfTheLastBottle() {
        BottledViews x = bottled(8);
        for (int bottle = 0; bottle < 8; bottle++) {
            for (int kind = 0; kind < 7; kind++) {
                x.become(bottle, 10 * kind + 5);
                Due.due("n " + bottle + ", KIND " + kind, x.voice(bottle, 3, 100), said(kind, 3, 100, bottle, 5));
            }
        }
        Due.due("no ninth", x.voice(8, 0, 0), Due.BEYOND);
    }

    /** Nothing says that an OPEN one is silent. */
    private static void voicesOfAnOpenBottle() {
        BottledViews x = bottled(2);
        x.open(1);
        Due.due("pours", x.voice(1, 0, 4), 5);
        x.days(50);
        Due.due("whatever its AGE", x.voice(0, 3, 4), said(0, 3, 4, 0, 0));
    }

    private static void traceIs(BottledViews x, int kind, int act, int... want) {
        x.become(0, 10 * kind);
        x.voice(0, act, 1);
        Due.due("how many of KIND " + kind + " voice " + act, x.count(8), want.length);
        for (int i = 0; i < want.length; i++) {
            Due.due("KIND " + kind + " voice " + act + " trace(" + i + ")", x.trace(i), want[i]);
        }
        Due.due("none ahead of the first", x.trace(-1), Due.NONE);
        Due.due("none behind the last", x.trace(want.length), Due.NONE);
    }

    /** As they began: what stands left first. Every VOICE of every KIND. */
    private static void traceOfEachKind() {
        BottledViews x = bottled(1);
        traceIs(x, 0, 0, 10);
        traceIs(x, 0, 1, 11, 10);
        traceIs(x, 0, 2, 12);
        traceIs(x, 0, 3, 13, 11, 10, 12);
        traceIs(x, 1, 0, 20, 10);
        traceIs(x, 1, 1, 11, 20, 10);
        traceIs(x, 1, 2, 12);
        traceIs(x, 1, 3, 13, 11, 20, 10, 12);
        traceIs(x, 2, 0, 10);
        traceIs(x, 2, 1, 30, 11, 10, 12);
        traceIs(x, 2, 2, 12);
        traceIs(x, 2, 3, 13, 30, 11, 10, 12, 12);
        traceIs(x, 3, 0, 10);
        traceIs(x, 3, 1, 11, 10);
        traceIs(x, 3, 2, 40, 12);
        traceIs(x, 3, 3, 13, 11, 10, 40, 12);
        traceIs(x, 4, 0, 20, 10);
        traceIs(x, 4, 1, 11, 20, 10);
        traceIs(x, 4, 2, 12);
        traceIs(x, 4, 3, 50, 13, 11, 20, 10, 12, 20, 10);
        traceIs(x, 5, 0, 10);
        traceIs(x, 5, 1, 60, 30, 11, 10, 12);
        traceIs(x, 5, 2, 12);
        traceIs(x, 5, 3, 13, 60, 30, 11, 10, 12, 12);
        traceIs(x, 6, 0, 10);
        traceIs(x, 6, 1, 11, 10);
        traceIs(x, 6, 2, 70, 40, 12);
        traceIs(x, 6, 3, 71, 11, 10, 13, 11, 10, 70, 40, 12);
    }

    /** THE TRACE is of the latest voice(): a shorter one leaves nothing of a longer one; a refused one is none. */
    private static void traceIsTheLatest() {
        BottledViews x = bottled(1);
        Due.due("none at first", x.count(8), 0);
        Due.due("none at first", x.trace(0), Due.NONE);
        x.become(0, 60);
        x.voice(0, 3, 0);
        Due.due("nine", x.count(8), 9);
        x.voice(0, 0, 0);
        Due.due("one", x.count(8), 1);
        Due.due("the one", x.trace(0), 10);
        Due.due("nothing of the nine", x.trace(1), Due.NONE);
        x.voice(0, 3, 0);
        Due.due("refused", x.voice(1, 0, 0), Due.BEYOND);
        Due.due("refused, too", x.voice(0, 4, 0), Due.BEYOND);
        Due.due("nine still", x.count(8), 9);
        Due.due("the first", x.trace(0), 71);
        Due.due("the last", x.trace(8), 12);
        x.become(0, 0);
        x.open(0);
        x.days(3);
        Due.due("it stays, whatever becomes of the BOTTLE", x.trace(8), 12);
    }

    /** Promise 31: n numbers (0 to 40), all 0, of 8, 16, 32 bits: told by what put and heights do. */
    private static void sheetsOfAllBits() {
        for (int bits : new int[] {8, 16, 32}) {
            for (int n : new int[] {0, 1, 19, 20, 21, 39, 40}) {
                for (int sheet = 0; sheet < 4; sheet++) {
                    BottledViews x = new BottledViews();
                    Due.due("sheet", x.sheet(sheet, bits, n), 1);
                    Due.due("no number " + n, x.put(sheet, n, 0), Due.BEYOND);
                    Due.due("the last number", x.put(sheet, n - 1, 0), n == 0 ? Due.BEYOND : 1);
                    Due.due("how many HEIGHTS", x.heights(sheet), Math.min(n, 20));
                    Due.due("of how many bits", x.move(sheet, n, sheet, n, 0), 0);
                }
            }
        }
    }

    private static void sheetsAreApart() {
        BottledViews x = new BottledViews();
        for (int sheet = 0; sheet < 4; sheet++) {
            x.sheet(sheet, 8, 3);
            x.put(sheet, 1, 10 + sheet);
        }
        for (int sheet = 0; sheet < 4; sheet++) {
            Due.due("three", x.heights(sheet), 3);
            Due.due("its own", x.ofPlace(1, 0), 10 + sheet);
            Due.due("0 ahead", x.ofPlace(0, 0), 0);
            Due.due("0 behind", x.ofPlace(2, 0), 0);
        }
        x.sheet(1, 0, 0);
        Due.due("1 is missing", x.judge(1), Due.NONE);
        Due.due("0 is not", x.heights(0), 3);
        Due.due("2 is not", x.heights(2), 3);
    }

    /** 0: it is missing, n doesn't matter. */
    private static void sheetBecomesMissing() {
        for (int n : new int[] {0, 1, 40, 41, -1, LEAST, MOST}) {
            BottledViews x = new BottledViews();
            x.sheet(2, 8, 20);
            Due.due("sheet(2, 0, " + n + ")", x.sheet(2, 0, n), 1);
            Due.due("put", x.put(2, 0, 0), Due.NONE);
            Due.due("heights", x.heights(2), Due.NONE);
            Due.due("judge", x.judge(2), Due.NONE);
            Due.due("one that is missing", x.sheet(2, 0, n), 1);
            Due.due("no ERROR but three", x.told(1) + x.told(3), 0);
            Due.due("once more", x.sheet(2, 16, 20), 1);
            Due.due("all 0", x.judge(2), -1);
        }
    }

    /** All 0: also those that stood there ahead. */
    private static void sheetIsAllNothing() {
        BottledViews x = new BottledViews();
        x.sheet(0, 32, 40);
        for (int i = 0; i < 40; i++) {
            x.put(0, i, 7);
        }
        x.sheet(0, 32, 1);
        x.sheet(0, 32, 40);
        Due.due("the first 20", x.judge(0), 20);
        x.move(0, 20, 0, 0, 20);
        Due.due("the last 20", x.judge(0), 20);
        x.put(0, 0, 7);
        x.sheet(0, 0, 0);
        x.sheet(0, 8, 20);
        Due.due("behind having been missing", x.judge(0), -1);
        x.put(0, 19, 9);
        Due.due("refused", x.sheet(0, 8, 41), Due.BEYOND);
        Due.due("refused, too", x.sheet(0, 8, -1), Due.STATE);
        Due.due("it stays as it was", x.judge(0), 19);
    }

    /** Promise 32: v (its lowest bits). Only what is within 0 to 20 can be told from outside. */
    private static void putTakesTheLowestBits() {
        int[][] rows = {{8, 256, 1}, {8, 256 + 20, 1}, {8, 512 + 3, 1}, {8, LEAST + 5, 1}, {8, -256, 1}, {8, -236, 1},
            {8, 65536 + 4, 1}, {8, 255, 0}, {8, -1, 0}, {8, 21, 0}, {8, 128, 0}, {8, MOST, 0}, {8, -235, 0},
            {16, 65536, 1}, {16, 65536 + 20, 1}, {16, LEAST + 6, 1}, {16, -65536, 1}, {16, 256, 0}, {16, 256 + 4, 0},
            {16, -1, 0}, {16, 32768, 0}, {16, MOST, 0}, {16, 65535, 0}, {16, -256, 0},
            {32, 0, 1}, {32, 20, 1}, {32, 21, 0}, {32, 65536, 0}, {32, 256, 0}, {32, -1, 0}, {32, LEAST, 0}, {32, MOST, 0},
            {32, LEAST + 4, 0}, {32, 1 << 24, 0}};
        for (int[] r : rows) {
            BottledViews x = new BottledViews();
            x.sheet(0, r[0], 1);
            Due.due("put", x.put(0, 0, r[1]), 1);
            Due.due(r[1] + " in " + r[0] + " bits is a HEIGHT", x.heights(0), r[2]);
            int lowest = r[0] == 32 ? r[1] : r[1] & (1 << r[0]) - 1;
            Due.due("which", x.ofPlace(0, 0), r[2] == 1 ? lowest : 5);
        }
    }

    private static void putAtTheEnds() {
        BottledViews x = new BottledViews();
        x.sheet(3, 16, 40);
        Due.due("the first", x.put(3, 0, 11), 1);
        Due.due("the last", x.put(3, 39, 12), 1);
        Due.due("one behind it", x.put(3, 40, 13), Due.BEYOND);
        Due.due("one ahead of the first", x.put(3, -1, 13), Due.BEYOND);
        Due.due("the first 20", x.heights(3), 20);
        Due.due("11", x.ofPlace(0, 0), 11);
        Due.due("0 behind it", x.ofPlace(1, 0), 0);
        x.move(3, 20, 3, 0, 20);
        x.heights(3);
        Due.due("12", x.ofPlace(19, 0), 12);
        Due.due("0 ahead of it", x.ofPlace(18, 0), 0);
        Due.due("in place of the one ahead", x.put(3, 19, 4), 1);
        x.heights(3);
        Due.due("4", x.ofPlace(19, 0), 4);
    }

    private static BottledViews counted(int bits, int n) {
        BottledViews x = new BottledViews();
        x.sheet(0, bits, n);
        for (int i = 0; i < n; i++) {
            x.put(0, i, i % 21);
        }
        return x;
    }

    /** Promise 33: as they all were: whichever way they overlap. */
    private static void moveAsTheyAllWere() {
        for (int i = 0; i <= 8; i++) {
            for (int j = 0; j <= 8; j++) {
                BottledViews x = counted(8, 20);
                Due.due("move from " + i + " to " + j, x.move(0, i, 0, j, 12), 12);
                x.heights(0);
                for (int k = 0; k < 20; k++) {
                    int want = k >= j && k < j + 12 ? k - j + i : k;
                    Due.due("number " + k + " from " + i + " to " + j, x.ofPlace(k, 0), want);
                }
            }
        }
    }

    private static void moveNoneAndAll() {
        BottledViews x = counted(16, 20);
        Due.due("none from the first", x.move(0, 0, 0, 5, 0), 0);
        Due.due("none behind the last", x.move(0, 20, 0, 20, 0), 0);
        Due.due("none farther behind", x.move(0, 21, 0, 0, 0), Due.BEYOND);
        Due.due("none to farther behind", x.move(0, 0, 0, 21, 0), Due.BEYOND);
        Due.due("all onto themselves", x.move(0, 0, 0, 0, 20), 20);
        Due.due("one too many", x.move(0, 0, 0, 0, 21), Due.BEYOND);
        Due.due("the last alone to the first", x.move(0, 19, 0, 0, 1), 1);
        Due.due("two from the last", x.move(0, 19, 0, 0, 2), Due.BEYOND);
        Due.due("two to the last", x.move(0, 0, 0, 19, 2), Due.BEYOND);
        x.heights(0);
        Due.due("the first", x.ofPlace(0, 0), 19);
        Due.due("the last", x.ofPlace(19, 0), 19);
        Due.due("the second", x.ofPlace(1, 0), 1);
        x.sheet(1, 16, 0);
        Due.due("none from one without numbers", x.move(1, 0, 0, 0, 0), 0);
        Due.due("none to one without numbers", x.move(0, 0, 1, 0, 0), 0);
        Due.due("one to one without numbers", x.move(0, 0, 1, 0, 1), Due.BEYOND);
        BottledViews y = counted(32, 40);
        y.sheet(3, 32, 40);
        Due.due("all 40", y.move(0, 0, 3, 0, 40), 40);
        Due.due("41", y.move(0, 0, 3, 0, 41), Due.BEYOND);
        y.heights(3);
        Due.due("number 19", y.ofPlace(19, 0), 19);
        y.move(3, 20, 3, 0, 20);
        y.heights(3);
        Due.due("number 20", y.ofPlace(0, 0), 20);
        Due.due("number 39", y.ofPlace(19, 0), 18);
    }

    private static void moveBetweenSheets() {
        for (int bits : new int[] {8, 16, 32}) {
            for (int other : new int[] {8, 16, 32}) {
                BottledViews x = counted(bits, 5);
                x.sheet(1, other, 3);
                int due = bits == other ? 3 : Due.KIND;
                Due.due(bits + " to " + other, x.move(0, 2, 1, 0, 3), due);
                x.heights(1);
                Due.due("the first of the other", x.ofPlace(0, 0), bits == other ? 2 : 0);
                Due.due("the last of the other", x.ofPlace(2, 0), bits == other ? 4 : 0);
                x.heights(0);
                Due.due("the one stays", x.ofPlace(2, 0), 2);
                Due.due("too many for the other", x.move(0, 0, 1, 0, 4), bits == other ? Due.BEYOND : Due.KIND);
                Due.due("too many for the one", x.move(1, 0, 0, 0, 4), bits == other ? Due.BEYOND : Due.KIND);
            }
        }
    }

    /** Promise 34: how many, up to the first that is not 0 to 20 (no ERROR then). */
    private static void heightsUpToTheFirst() {
        for (int at = 0; at < 20; at++) {
            BottledViews x = new BottledViews();
            x.sheet(0, 32, 20);
            x.put(0, 0, 20);
            x.put(0, at, at % 2 == 0 ? 21 : -1);
            Due.due("up to " + at, x.heights(0), at);
            for (int i = 0; i < 20; i++) {
                Due.due("HEIGHT of " + i, x.ofPlace(i, 0), i >= at ? 5 : i == 0 ? 20 : 0);
            }
            Due.due("no ERROR", x.told(1) + x.told(2) + x.told(3), 0);
        }
    }

    /** .. or for which there is no PLACE. */
    private static void heightsForWhichThereIsNoPlace() {
        for (int n = 0; n <= 40; n++) {
            BottledViews x = new BottledViews();
            x.sheet(0, 8, n);
            Due.due("SHEET of " + n, x.heights(0), Math.min(20, n));
            Due.due("the last of them", x.ofPlace(19, 0), n >= 20 ? 0 : 5);
            if (n > 20) {
                x.put(0, 20, 21);
                Due.due("no PLACE for the one that is none", x.heights(0), 20);
                x.put(0, 19, 21);
                Due.due("a PLACE for the one ahead", x.heights(0), 19);
            }
        }
        BottledViews x = new BottledViews();
        x.land(3, 1, 9);
        x.sheet(0, 8, 20);
        x.heights(0);
        Due.due("MISSING stays", x.ofPlace(3, 1), 9);
    }

    /** Promise 35: the first that isn't so (one that lacks, or is too many, too); -1: all are. */
    private static void judgeLacksAndTooMany() {
        for (int n = 0; n <= 40; n++) {
            BottledViews x = new BottledViews();
            x.sheet(0, 8, n);
            Due.due("SHEET of " + n, x.judge(0), n == 20 ? -1 : Math.min(20, n));
        }
        for (int at = 0; at < 20; at++) {
            BottledViews x = new BottledViews();
            x.sheet(0, 8, 20);
            x.land(at, 1, 99);
            Due.due("MISSING at " + at, x.judge(0), at);
            x.put(0, at, 98);
            Due.due("98 isn't 99", x.judge(0), at);
            x.put(0, at, 99);
            Due.due("99 is", x.judge(0), -1);
            x.land(at, 1, 0);
            Due.due("0 isn't 99", x.judge(0), at);
            x.put(0, 19, 1);
            Due.due("the first of two", x.judge(0), at);
        }
        BottledViews x = new BottledViews();
        x.sheet(0, 8, 21);
        x.put(0, 20, 7);
        Due.due("one too many, whatever it is", x.judge(0), 20);
        x.land(4, 1, 1);
        Due.due("one that isn't so ahead of it", x.judge(0), 4);
        x.sheet(0, 8, 4);
        Due.due("one that lacks ahead of one that isn't so", x.judge(0), 4);
        Due.due("no ERROR", x.told(1) + x.told(2) + x.told(3), 0);
    }

    private static void judgeByBits() {
        for (int bits : new int[] {8, 16, 32}) {
            BottledViews x = new BottledViews();
            x.sheet(0, bits, 20);
            x.land(7, 1, 99);
            x.put(0, 7, 256 + 99);
            Due.due("256 and 99 in " + bits + " bits", x.judge(0), bits == 8 ? -1 : 7);
            x.put(0, 7, 65536 + 99);
            Due.due("65536 and 99 in " + bits + " bits", x.judge(0), bits == 32 ? 7 : -1);
            x.put(0, 7, 99);
            Due.due("99 in " + bits + " bits", x.judge(0), -1);
        }
    }

    /** Promise 36: in place of one ahead: how often that was done. */
    private static void imageInPlaceOfOneAhead() {
        BottledViews x = new BottledViews();
        for (int i = 1; i <= 20; i++) {
            Due.due("how often", x.image(), i);
            x.days(1);
            Due.due("the latest", x.restore(), i - 1);
            x.days(1);
        }
    }

    private static void imageOfNothing() {
        BottledViews x = new BottledViews();
        Due.due("refused", x.restore(), Due.NONE);
        x.image();
        x.village(3);
        x.land(4, 0, 9);
        x.fill(0, 0, 1, Due.set(4));
        x.days(9);
        Due.text(x, 0, "9");
        Due.text(x, 1, "9");
        Due.feed(x, "12");
        x.tell(1);
        x.seed(9);
        Due.due("DAY 0", x.restore(), 0);
        int[] counts = {0, 0, 0, 0, 0, 0, 0, 0, 0, 1};
        for (int what = 0; what < counts.length; what++) {
            Due.due("count(" + what + ")", x.count(what), counts[what]);
        }
        Due.due("HEIGHT", x.ofPlace(4, 0), 5);
        Due.due("GROWS has none", x.law(0, 1, 0, 0), 4);
        Due.due("COSTS has none", x.law(1, 1, 1, 0), 3);
        Due.due("no VILLAGE", x.at(0), Due.BEYOND);
        Due.due("no BOTTLE", x.ofBottle(0, 0), Due.BEYOND);
        Due.due("its number is the first again", x.village(3), 0);
    }

    /** All is kept: the full town, changed in all its parts, is back. */
    private static void imageKeepsAll() {
        BottledViews x = Edge.full();
        x.image();
        x.check();
        for (int i = 0; i < 20; i++) {
            x.tell(-1 - i);
        }
        x.text(1);
        Due.text(x, 0, "1");
        x.seed(77);
        for (int i = 0; i < 20; i++) {
            x.land(i, 0, 1 + i % 3);
            x.land(i, 1, 7 + i);
        }
        for (int i = 0; i < 5; i++) {
            x.moves(i, 19 - i);
        }
        for (int i = 0; i < 8; i++) {
            x.become(i, 63 - i);
            x.open(i);
        }
        BottledViews twin = Edge.full();
        twin.image();
        List<Integer> back = Edge.lookBack(x);
        List<Integer> kept = Edge.lookBack(twin);
        Due.due("as much is seen", back.size(), kept.size());
        for (int i = 0; i < back.size() && i < kept.size(); i++) {
            Due.due("what the IMAGE keeps (" + i + ")", back.get(i), kept.get(i));
        }
    }

    /** But SHEETS, THE TRACE, what told() tells, and how often this was done. */
    private static void restoreLeavesOut() {
        BottledViews x = bottled(1);
        x.sheet(0, 8, 20);
        x.voice(0, 0, 0);
        x.image();
        x.put(0, 3, 9);
        x.sheet(1, 16, 2);
        x.voice(0, 3, 0);
        x.at(9);
        x.trace(99);
        x.open(0);
        x.open(0);
        x.image();
        x.days(5);
        Due.due("restore", x.restore(), 0);
        Due.due("the SHEET's numbers", x.judge(0), 3);
        Due.due("the new SHEET", x.put(1, 1, 0), 1);
        Due.due("THE TRACE", x.count(8), 4);
        Due.due("its first", x.trace(0), 13);
        Due.due("told(1)", x.told(1), 1);
        Due.due("told(2)", x.told(2), 1);
        Due.due("told(3)", x.told(3), 1);
        Due.due("how often", x.image(), 3);
        x.sheet(0, 0, 0);
        x.restore();
        Due.due("a SHEET that went missing", x.judge(0), Due.NONE);
    }

    /** Promise 37: the IMAGE stays. */
    private static void restoreAgainAndAgain() {
        BottledViews x = bottled(2);
        x.days(7);
        x.image();
        for (int i = 0; i < 10; i++) {
            x.days(100);
            x.open(i % 2);
            x.fill(0, 0, 0, Due.set(9));
            x.land(5, 0, 20 - i);
            Due.due("DAY", x.restore(), 7);
            Due.due("DAY is so", x.count(2), 7);
            Due.due("not OPEN", x.count(4), 0);
            Due.due("two BOTTLES", x.count(1), 2);
            Due.due("AGE", x.ofBottle(i % 2, 4), 7);
            Due.due("HOLDS", x.ofBottle(i % 2, 3), Due.set(11 + i % 2));
            Due.due("HEIGHT", x.ofPlace(5, 0), 4);
        }
        Due.due("twice at once", x.restore(), x.restore());
    }

    /** Promise 38: one more number waits: how many. FULL: 20 wait. */
    private static void tellUntilTwenty() {
        BottledViews x = new BottledViews();
        for (int i = 1; i <= 20; i++) {
            Due.due("tell", x.tell(ANY[i % ANY.length]), i);
            Due.due("how many wait", x.count(7), i);
        }
        Due.due("a 21st", x.tell(0), Due.FULL);
        Due.due("20", x.count(7), 20);
        x.check();
        Due.due("room again", x.tell(0), 1);
    }

    /** Promise 39: behind 1, 2, .. DAYS: 0; else 1 and the place (from 0) of the first that isn't so. */
    private static void checkFromTheFirstToTheLast() {
        for (int wrong = 0; wrong <= 20; wrong++) {
            BottledViews x = new BottledViews();
            for (int i = 0; i < 20; i++) {
                x.land(i, 1, i + 1);
            }
            // i + 1 DAYS behind, MISSING are those of more than i + 1: 19 - i.
            for (int i = 0; i < 20; i++) {
                x.tell(19 - i + (i >= wrong ? 1 : 0));
            }
            Due.due("wrong from " + wrong + " on", x.check(), wrong == 20 ? 0 : 1 + wrong);
            Due.due("none wait then", x.count(7), 0);
            Due.due("nothing passed", x.count(3), 20);
            Due.due("DAY stays", x.count(2), 0);
            Due.due("none to be wrong", x.check(), 0);
        }
        BottledViews x = new BottledViews();
        x.land(0, 1, 1);
        x.tell(1);
        Due.due("not behind 0 DAYS", x.check(), 1);
        x.tell(0);
        Due.due("behind 1 DAY", x.check(), 0);
        x.land(0, 1, 2);
        x.tell(1);
        x.tell(0);
        Due.due("behind 1 and 2 DAYS", x.check(), 0);
        x.tell(-1);
        Due.due("below 0", x.check(), 1);
        x.tell(1 + 256);
        Due.due("all its bits", x.check(), 1);
    }

    private static void checkOfNone() {
        Due.due("none wait at first", new BottledViews().check(), 0);
        BottledViews x = new BottledViews();
        x.land(0, 1, 9);
        Due.due("none wait, one is MISSING", x.check(), 0);
        Due.due("again", x.check(), 0);
    }

    /** Promise 40: each what, of a new object, a full one, and one behind. */
    private static void countsOfTheEmptyAndTheFull() {
        BottledViews x = Edge.full();
        // COSTS by k+3: WHITE 4, BLUE twice 3 (nothing is LEFT), CUT half of 5, OLD 4, LONG 8 + 20, FORGED 1, VINTAGE 4,
        // the OPEN one 3.
        int[] full = {5, 8, 9999, 7, 1, 52, 50, 20, 9, 1};
        for (int what = 0; what < full.length; what++) {
            Due.due("count(" + what + ") of the full one", x.count(what), full[what]);
        }
        for (int i = 0; i < 8; i++) {
            x.open(i);
            Due.due("OPEN ones", x.count(4), Math.min(8, i + 2));
        }
        Due.due("behind the last what", x.count(10), Due.BEYOND);
        Due.due("ahead of the first what", x.count(-1), Due.BEYOND);
        BottledViews all = new BottledViews();
        for (int i = 0; i < 20; i++) {
            all.land(i, 1, 1 + i);
            Due.due("MISSING", all.count(3), i + 1);
        }
    }
}
