/** Promises 1 to 6: a new object, the land, villages. */
public final class LandTest {
    private static final int ALL = 1048575;

    public static void main(String[] args) {
        newObject();
        land();
        ofPlace();
        whatIsSeen();
        village();
        moves();
        Due.end();
    }

    private static void newObject() {
        BottledViews x = new BottledViews();
        for (int what = 0; what < 9; what++) {
            Due.due("new: count(" + what + ")", x.count(what), 0);
        }
        Due.due("new: z", x.count(9), 1);
        for (int place = 0; place < 20; place++) {
            Due.due("new: HEIGHT", x.ofPlace(place, 0), 5);
            Due.due("new: MISSING", x.ofPlace(place, 1), 0);
        }
        for (int sheet = 0; sheet < 4; sheet++) {
            Due.due("new: a SHEET is missing", x.judge(sheet), Due.NONE);
        }
        Due.due("new: no IMAGE", x.restore(), Due.NONE);
        Due.due("new: no VILLAGE", x.at(0), Due.BEYOND);
        Due.due("new: no BOTTLE", x.ofBottle(0, 0), Due.BEYOND);
        Due.due("new: GROWS", x.law(0, 4, 0, 0), 7);
        Due.due("new: COSTS", x.law(1, 4, 3, 0), 11);
        BottledViews y = new BottledViews();
        y.land(3, 0, 9);
        Due.due("new: objects are apart", new BottledViews().ofPlace(3, 0), 5);
    }

    private static void land() {
        BottledViews x = new BottledViews();
        Due.due("land(0, 0, 20)", x.land(0, 0, 20), 5);
        Due.due("land(0, 0, 0)", x.land(0, 0, 0), 20);
        Due.due("land(19, 1, 99)", x.land(19, 1, 99), 0);
        Due.due("land(19, 1, 0)", x.land(19, 1, 0), 99);
        int[][] beyond = {{-1, 0, 0}, {20, 0, 0}, {0, -1, 0}, {0, 2, 0}, {0, 0, -1}, {0, 0, 21}, {0, 1, -1},
            {0, 1, 100}, {Integer.MIN_VALUE, 0, 0}, {Integer.MAX_VALUE, 1, 0}, {0, 0, Integer.MAX_VALUE}};
        for (int[] b : beyond) {
            Due.due("land BEYOND " + b[0] + " " + b[1] + " " + b[2], x.land(b[0], b[1], b[2]), Due.BEYOND);
        }
        Due.due("an ERROR leaves HEIGHT", x.ofPlace(0, 0), 0);
        Due.due("an ERROR leaves MISSING", x.ofPlace(0, 1), 0);
    }

    private static void ofPlace() {
        BottledViews x = Due.bowl(10);
        x.land(4, 1, 7);
        Due.due("HEIGHT", x.ofPlace(0, 0), 9);
        Due.due("MISSING", x.ofPlace(4, 1), 7);
        Due.due("VIEW west", x.ofPlace(10, 2), 1023 & ~16);
        Due.due("VIEW east", x.ofPlace(10, 3), ALL & ~2047);
        Due.due("SIGHTS", x.ofPlace(10, 4), 18);
        x.land(4, 1, 1);
        x.land(16, 1, 1);
        Due.due("VIEW west, MISSING for one DAY", x.ofPlace(10, 2), 1023 & ~16);
        Due.due("VIEW east, MISSING for one DAY", x.ofPlace(10, 3), ALL & ~2047 & ~Due.set(16));
        Due.due("SIGHTS, MISSING for one DAY", x.ofPlace(10, 4), 17);
        Due.due("no VILLAGES", x.ofPlace(10, 5), 0);
        x.village(10);
        x.village(3);
        x.village(10);
        Due.due("VILLAGES", x.ofPlace(10, 5), Due.set(0, 2));
        Due.due("VILLAGES of 3", x.ofPlace(3, 5), Due.set(1));
        Due.due("place -1", x.ofPlace(-1, 0), Due.BEYOND);
        Due.due("place 20", x.ofPlace(20, 0), Due.BEYOND);
        Due.due("what -1", x.ofPlace(0, -1), Due.BEYOND);
        Due.due("what 6", x.ofPlace(0, 6), Due.BEYOND);
    }

    private static void whatIsSeen() {
        BottledViews flat = new BottledViews();
        Due.due("flat: the next one alone", flat.ofPlace(5, 3), Due.set(6));
        Due.due("the west end has no west", flat.ofPlace(0, 2), 0);
        Due.due("the east end has no east", flat.ofPlace(19, 3), 0);
        Due.due("the east end looks west", flat.ofPlace(19, 2), Due.set(18));

        BottledViews line = Due.landOf(0, 2, 4, 7);
        Due.due("on one line is hidden, above it is seen", line.ofPlace(0, 3), Due.set(1, 3));
        line.land(1, 1, 1);
        Due.due("what is MISSING hides nothing and is not seen", line.ofPlace(0, 3), Due.set(2, 3));
        line.land(0, 1, 5);
        Due.due("one may be MISSING oneself", line.ofPlace(0, 3), Due.set(2, 3));
        Due.due("the MISSING one is not seen", line.ofPlace(3, 2) & Due.set(0, 1), 0);

        BottledViews down = Due.landOf(20, 17, 15, 14);
        Due.due("downhill: ever less steep is seen", down.ofPlace(0, 3) & Due.set(1, 2, 3), Due.set(1, 2, 3));
        BottledViews cliff = Due.landOf(20, 17, 13, 8);
        Due.due("downhill: ever steeper is hidden", cliff.ofPlace(0, 3) & Due.set(1, 2, 3), Due.set(1));
    }

    private static void village() {
        BottledViews x = new BottledViews();
        Due.due("village(-1)", x.village(-1), Due.BEYOND);
        Due.due("village(20)", x.village(20), Due.BEYOND);
        for (int i = 0; i < 5; i++) {
            Due.due("village", x.village(i * 4), i);
        }
        Due.due("a sixth", x.village(0), Due.FULL);
        Due.due("BEYOND is asked first", x.village(20), Due.BEYOND);
        Due.due("five stay", x.count(0), 5);
    }

    private static void moves() {
        BottledViews x = new BottledViews();
        x.village(3);
        x.village(4);
        Due.due("at(0)", x.at(0), 3);
        Due.due("at(1)", x.at(1), 4);
        Due.due("at(2)", x.at(2), Due.BEYOND);
        Due.due("at(-1)", x.at(-1), Due.BEYOND);
        Due.due("moves(0, 19)", x.moves(0, 19), 3);
        Due.due("moves(0, 4)", x.moves(0, 4), 19);
        Due.due("two AT one", x.ofPlace(4, 5), 3);
        Due.due("moves to where it is", x.moves(0, 4), 4);
        Due.due("moves(0, 20)", x.moves(0, 20), Due.BEYOND);
        Due.due("moves(0, -1)", x.moves(0, -1), Due.BEYOND);
        Due.due("moves(2, 0)", x.moves(2, 0), Due.BEYOND);
        Due.due("moves(-1, 0)", x.moves(-1, 0), Due.BEYOND);
        Due.due("it stays", x.at(0), 4);
    }
}
