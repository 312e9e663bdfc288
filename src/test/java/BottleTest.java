/** Promises 7 to 11: bottles. */
public final class BottleTest {
    private static final int ALL = 1048575;

    public static void main(String[] args) {
        fill();
        fillIsRefused();
        ofBottle();
        leftByKind();
        leftWithAge();
        costsByKind();
        become();
        as();
        open();
        Due.end();
    }

    /** A bowl with a VILLAGE on its ground, and one BOTTLE filled there. */
    private static BottledViews bottled(int km, int side, int places) {
        BottledViews x = Due.bowl(10);
        x.village(10);
        Due.due("fill " + km, x.fill(km, 0, side, places), 0);
        return x;
    }

    private static void fill() {
        BottledViews x = bottled(37, 1, Due.set(11, 15, 19));
        Due.due("GROWS without a TEXT: 3+0", x.ofPlace(11, 1), 3);
        Due.due("GROWS without a TEXT: 3+4", x.ofPlace(15, 1), 7);
        Due.due("GROWS without a TEXT: 3+8", x.ofPlace(19, 1), 11);
        Due.due("the rest stays", x.ofPlace(12, 1), 0);
        Due.due("three are MISSING", x.count(3), 3);
        Due.due("a BOTTLE", x.count(1), 1);

        Due.due("the PLACE farthest to the west", x.fill(0, 0, 0, Due.set(0)), 1);
        Due.due("is MISSING", x.ofPlace(0, 1), 12);
        x.land(12, 1, 1);
        Due.due("one that is MISSING for one DAY more", x.fill(0, 0, 1, Due.set(12)), Due.STATE);

        BottledViews y = Due.bowl(10);
        y.village(10);
        y.days(40);
        Due.due("a TEXT", Due.text(y, 0, "h*100+s*10+d-140"), 1);
        y.fill(0, 0, 0, Due.set(9, 5));
        Due.due("held at 1", y.ofPlace(9, 1), 1);
        Due.due("held at 99", y.ofPlace(5, 1), 99);
        Due.text(y, 0, "s*10+d");
        y.fill(0, 0, 1, Due.set(13));
        Due.due("s and d", y.ofPlace(13, 1), 70);
    }

    private static void fillIsRefused() {
        BottledViews x = Due.bowl(10);
        x.village(10);
        int[][] beyond = {{-1, 0, 0, 1}, {70, 0, 0, 1}, {0, -1, 0, 1}, {0, 1, 0, 1}, {0, 0, -1, 1}, {0, 0, 2, 1},
            {0, 0, 0, 0}, {0, 0, 0, -1}, {0, 0, 0, ALL + 1}, {0, 0, 0, Integer.MIN_VALUE}};
        for (int[] b : beyond) {
            Due.due("fill BEYOND", x.fill(b[0], b[1], b[2], b[3]), Due.BEYOND);
        }
        Due.due("the other side", x.fill(0, 0, 0, Due.set(11)), Due.STATE);
        Due.due("one of both sides", x.fill(0, 0, 0, Due.set(9, 11)), Due.STATE);
        Due.due("its own PLACE", x.fill(0, 0, 0, Due.set(10)), Due.STATE);
        Due.due("nothing is MISSING", x.count(3), 0);
        for (int i = 0; i < 8; i++) {
            Due.due("fill", x.fill(i, 0, 1, Due.set(11 + i)), i);
        }
        Due.due("a ninth", x.fill(0, 0, 1, Due.set(19)), Due.FULL);
        Due.due("STATE is asked ahead of FULL", x.fill(0, 0, 1, Due.set(11)), Due.STATE);
        Due.due("BEYOND is asked ahead of FULL", x.fill(70, 0, 1, Due.set(19)), Due.BEYOND);
        Due.due("the ninth took nothing", x.ofPlace(19, 1), 0);
    }

    private static void ofBottle() {
        BottledViews x = bottled(68, 0, Due.set(0, 9));
        int[] want = {6, 8, 10, Due.set(0, 9), 0, 0, Due.set(0, 9), 10, 14};
        for (int what = 0; what < want.length; what++) {
            Due.due("ofBottle(0, " + what + ")", x.ofBottle(0, what), want[what]);
        }
        x.days(1);
        x.days(1);
        Due.due("AGE", x.ofBottle(0, 4), 2);
        x.moves(0, 3);
        Due.due("FROM stays where it was filled", x.ofBottle(0, 2), 10);
        Due.due("ofBottle(1, 0)", x.ofBottle(1, 0), Due.BEYOND);
        Due.due("ofBottle(-1, 0)", x.ofBottle(-1, 0), Due.BEYOND);
        Due.due("ofBottle(0, -1)", x.ofBottle(0, -1), Due.BEYOND);
        Due.due("ofBottle(0, 9)", x.ofBottle(0, 9), Due.BEYOND);
    }

    private static void leftByKind() {
        int held = Due.set(5, 7, 8, 9);
        int[] kms = {4, 14, 24, 34, 44, 54, 64};
        int[] lefts = {held, Due.set(5, 7), held | Due.set(4), held, Due.set(5, 7), held | Due.set(4), held};
        int[] leagues = {5, 5, 6, 5, 5, 6, 5};
        for (int i = 0; i < kms.length; i++) {
            BottledViews x = bottled(kms[i], 0, held);
            Due.due("LEFT of km " + kms[i], x.ofBottle(0, 6), lefts[i]);
            Due.due("LEAGUES of km " + kms[i], x.ofBottle(0, 7), leagues[i]);
        }
        Due.due("BLUE with near ones alone", bottled(10, 0, Due.set(8, 9)).ofBottle(0, 6), 0);
        Due.due("LEAGUES of nothing", bottled(10, 0, Due.set(8, 9)).ofBottle(0, 7), 0);
        Due.due("BLUE: 3 steps are enough", bottled(10, 1, Due.set(12, 13)).ofBottle(0, 6), Due.set(13));
    }

    private static void leftWithAge() {
        BottledViews x = bottled(30, 0, Due.set(0, 4, 9));
        x.days(9);
        Due.due("OLD, AGE 9: 10 steps", x.ofBottle(0, 6), Due.set(0, 4, 9));
        x.days(1);
        Due.due("OLD, AGE 10: 9 steps", x.ofBottle(0, 6), Due.set(4, 9));
        x.days(3);
        Due.due("OLD, AGE 13: 6 steps", x.ofBottle(0, 6), Due.set(4, 9));
        x.become(0, 60);
        Due.due("VINTAGE, AGE 13: 13 steps", x.ofBottle(0, 6), Due.set(0, 4, 9));
        x.days(6);
        Due.due("VINTAGE, AGE 19: a half is 9, 10 steps", x.ofBottle(0, 6), Due.set(0, 4, 9));
        x.days(1);
        Due.due("VINTAGE, AGE 20: 9 steps", x.ofBottle(0, 6), Due.set(4, 9));
        x.become(0, 30);
        Due.due("OLD, AGE 20: none", x.ofBottle(0, 6), 0);
        x.become(0, 0);
        Due.due("WHITE keeps all", x.ofBottle(0, 6), Due.set(0, 4, 9));
        x.days(79);
        Due.due("AGE 99", x.ofBottle(0, 4), 99);
        x.days(1);
        Due.due("AGE is 99 at most", x.ofBottle(0, 4), 99);
    }

    private static void costsByKind() {
        BottledViews x = bottled(0, 0, Due.set(5, 6, 7, 8));
        x.days(5);
        // LEFT 4 and LEAGUES 5: v is 13; AGE is 5. BLUE has 3 LEFT: v is 11. CUT with m 9 has 5: v is 15.
        int[][] want = {{0, 13}, {9, 13}, {10, 22}, {19, 22}, {43, 37}, {29, 7}, {59, 1}, {39, 18}, {64, 19},
            {65, 18}, {61, 20}, {60, 23}};
        for (int[] w : want) {
            x.become(0, w[0]);
            Due.due("COSTS of km " + w[0], x.ofBottle(0, 8), w[1]);
        }
        Due.text(x, 1, "k*100+l*10+a");
        x.become(0, 0);
        Due.due("k, l, a", x.ofBottle(0, 8), 455);
        x.become(0, 10);
        Due.due("k is what is LEFT", x.ofBottle(0, 8), 710);
        Due.text(x, 1, "0-1");
        Due.due("held at 0", x.ofBottle(0, 8), 0);
        Due.text(x, 1, "9999");
        Due.due("held at 999, then twice", x.ofBottle(0, 8), 1998);
    }

    private static void become() {
        BottledViews x = bottled(23, 1, Due.set(12));
        x.days(2);
        Due.due("become(0, 69)", x.become(0, 69), 2);
        Due.due("KIND", x.ofBottle(0, 0), 6);
        Due.due("m", x.ofBottle(0, 1), 9);
        Due.due("FROM stays", x.ofBottle(0, 2), 10);
        Due.due("HOLDS stays", x.ofBottle(0, 3), Due.set(12));
        Due.due("AGE stays", x.ofBottle(0, 4), 2);
        Due.due("become(0, 70)", x.become(0, 70), Due.BEYOND);
        Due.due("become(0, -1)", x.become(0, -1), Due.BEYOND);
        Due.due("become(1, 0)", x.become(1, 0), Due.BEYOND);
        Due.due("become(-1, 0)", x.become(-1, 0), Due.BEYOND);
        x.open(0);
        Due.due("an OPEN one, too", x.become(0, 25), 6);
        Due.due("it stays OPEN", x.ofBottle(0, 5), 1);
        Due.due("nothing is LEFT in an OPEN CUT one", x.ofBottle(0, 6), 0);
    }

    private static void as() {
        BottledViews x = bottled(3, 0, Due.set(9));
        int[][] above = {{}, {0}, {0}, {0}, {1, 0}, {2, 0}, {3, 0}};
        for (int kind = 0; kind < 7; kind++) {
            x.become(0, 10 * kind + kind);
            for (int asked = 0; asked < 7; asked++) {
                boolean is = asked == kind;
                for (int a : above[kind]) {
                    is |= a == asked;
                }
                Due.due("KIND " + kind + " as " + asked, x.as(0, asked), is ? kind : Due.KIND);
            }
        }
        Due.due("as(0, 7)", x.as(0, 7), Due.BEYOND);
        Due.due("as(0, -1)", x.as(0, -1), Due.BEYOND);
        Due.due("as(1, 0)", x.as(1, 0), Due.BEYOND);
        Due.due("as(-1, 0)", x.as(-1, 0), Due.BEYOND);
    }

    private static void open() {
        BottledViews x = bottled(10, 1, Due.set(11, 12, 13, 14));
        Due.due("BLUE gives back what is LEFT", x.open(0), 2);
        Due.due("there", x.ofPlace(13, 1), 0);
        Due.due("still MISSING", x.ofPlace(12, 1), 4);
        Due.due("HOLDS nothing", x.ofBottle(0, 3), 0);
        Due.due("OPEN", x.ofBottle(0, 5), 1);
        Due.due("twice", x.open(0), Due.STATE);
        Due.due("open(1)", x.open(1), Due.BEYOND);
        Due.due("open(-1)", x.open(-1), Due.BEYOND);
        x.days(3);
        Due.due("an OPEN one doesn't age", x.ofBottle(0, 4), 0);
        Due.due("the other two grew", x.count(3), 1);

        BottledViews ends = bottled(0, 0, Due.set(0));
        ends.days(11);
        Due.due("MISSING for one DAY more", ends.ofPlace(0, 1), 1);
        Due.due("the PLACE farthest to the west", ends.open(0), 1);
        Due.due("is there", ends.ofPlace(0, 1), 0);

        BottledViews cut = bottled(23, 1, Due.set(11, 12));
        cut.land(3, 1, 50);
        cut.land(11, 1, 0);
        Due.due("only those count that were MISSING", cut.open(0), 2);
        Due.due("the tower that isn't came back", cut.ofPlace(3, 1), 0);
        Due.due("CUT, OPEN: nothing LEFT", cut.ofBottle(0, 6), 0);
        Due.due("CUT, OPEN: LEAGUES", cut.ofBottle(0, 7), 0);
        cut.become(0, 57);
        Due.due("FORGED, OPEN: COSTS 1", cut.ofBottle(0, 8), 1);
    }
}
