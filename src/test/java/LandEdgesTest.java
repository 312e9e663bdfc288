/** The edges of Terms 1 and of promises 1 to 6: PLACES, HEIGHTS, what is MISSING, what hides, VILLAGES. */
public final class LandEdgesTest {
    private static final int ALL = Edge.ALL;

    public static void main(String[] args) {
        firstState();
        placesAreTwenty();
        heightIsHeldApartFromMissing();
        everyHeightAndEveryMissing();
        asMuchAsHides();
        asMuchAsHidesFarOff();
        steepestLines();
        whatIsMissingHidesNothing();
        oneIsThereAtZeroAlone();
        oneMayBeMissingOneself();
        ownPlaceIsNotSeen();
        endsOfTheRow();
        nextToEachOther();
        sightsFromNoneToAll();
        villagesAtOnePlace();
        villagesAreNumbered();
        movesTellsWhereItWas();
        Due.end();
    }

    /** Promise 1: all as at first. */
    private static void firstState() {
        BottledViews x = new BottledViews();
        for (int i = 0; i < 20; i++) {
            Due.due("HEIGHT 5 at first", x.land(i, 0, 0), 5);
            Due.due("MISSING 0 at first", x.land(i, 1, 1), 0);
        }
        x = new BottledViews();
        int[] counts = {0, 0, 0, 0, 0, 0, 0, 0, 0, 1};
        for (int what = 0; what < counts.length; what++) {
            Due.due("count(" + what + ") at first", x.count(what), counts[what]);
        }
        for (int k = 1; k <= 5; k++) {
            Due.due("no ERROR yet", x.told(k), 0);
        }
        Due.due("THE TAPE is empty", x.text(0), -10);
        Due.due("nothing waits", x.check(), 0);
        Due.due("nothing to cover", x.cover(0), 0);
        Due.due("nothing to keep", x.keeps(0), 0);
        Due.due("nothing to keep costs nothing", x.keeps(1), 0);
        Due.due("z is 1", x.seed(0), 1);
        Due.due("no IMAGE was made", x.image(), 1);
    }

    /** PLACES 0 to 19 in a row. */
    private static void placesAreTwenty() {
        BottledViews x = new BottledViews();
        for (int i = 0; i < 20; i++) {
            Due.due("land of PLACE " + i, x.land(i, 0, 19 - i), 5);
            Due.due("MISSING of PLACE " + i, x.land(i, 1, 80 + i), 0);
        }
        for (int i = 0; i < 20; i++) {
            Due.due("HEIGHT of PLACE " + i, x.ofPlace(i, 0), 19 - i);
            Due.due("MISSING of PLACE " + i, x.ofPlace(i, 1), 80 + i);
        }
        Due.due("all are MISSING", x.count(3), 20);
    }

    private static void heightIsHeldApartFromMissing() {
        BottledViews x = new BottledViews();
        x.land(7, 0, 9);
        Due.due("MISSING stays", x.ofPlace(7, 1), 0);
        x.land(7, 1, 3);
        Due.due("HEIGHT stays, though it is MISSING", x.ofPlace(7, 0), 9);
        Due.due("HEIGHT of what is MISSING becomes another", x.land(7, 0, 4), 9);
        Due.due("MISSING stays then", x.ofPlace(7, 1), 3);
        Due.due("the one ahead stays", x.ofPlace(6, 0) + x.ofPlace(6, 1), 5);
        Due.due("the one behind stays", x.ofPlace(8, 0) + x.ofPlace(8, 1), 5);
    }

    /** HEIGHT 0 to 20, MISSING 0 to 99: each is taken, told, and told as what it was. */
    private static void everyHeightAndEveryMissing() {
        BottledViews x = new BottledViews();
        int before = 5;
        for (int v = 0; v <= 20; v++) {
            Due.due("land HEIGHT " + v, x.land(0, 0, v), before);
            Due.due("HEIGHT " + v, x.ofPlace(0, 0), v);
            before = v;
        }
        before = 0;
        for (int v = 0; v <= 99; v++) {
            Due.due("land MISSING " + v, x.land(19, 1, v), before);
            Due.due("MISSING " + v, x.ofPlace(19, 1), v);
            before = v;
        }
        Due.due("no ERROR", x.told(1), 0);
    }

    private static boolean seen(int a, int b, int... heights) {
        BottledViews x = Due.landOf(heights);
        return (x.ofPlace(a, b < a ? 2 : 3) >> b & 1) != 0;
    }

    /** It hides, if it is as much, or more: one less is seen, as much is hidden; on both sides, up, down, level. */
    private static void asMuchAsHides() {
        Due.holds("level: as high is hidden", !seen(0, 2, 5, 5, 5));
        Due.holds("level: one higher is seen", seen(0, 2, 5, 5, 6));
        Due.holds("level: over one lower", seen(0, 2, 5, 4, 5));
        Due.holds("level: behind one higher", !seen(0, 2, 5, 6, 5));
        Due.holds("up: on the line is hidden", !seen(0, 2, 0, 3, 6));
        Due.holds("up: one above the line is seen", seen(0, 2, 0, 3, 7));
        Due.holds("up: one below the line is hidden", !seen(0, 2, 0, 3, 5));
        Due.holds("down: on the line is hidden", !seen(0, 2, 20, 17, 14));
        Due.holds("down: one above the line is seen", seen(0, 2, 20, 17, 15));
        Due.holds("down: one below the line is hidden", !seen(0, 2, 20, 17, 13));
        Due.holds("west, level: as high is hidden", !seen(2, 0, 5, 5, 5));
        Due.holds("west, level: one higher is seen", seen(2, 0, 6, 5, 5));
        Due.holds("west, up: on the line is hidden", !seen(2, 0, 6, 3, 0));
        Due.holds("west, up: one above the line is seen", seen(2, 0, 7, 3, 0));
        Due.holds("west, down: on the line is hidden", !seen(2, 0, 14, 17, 20));
        Due.holds("west, down: one above the line is seen", seen(2, 0, 15, 17, 20));
    }

    /** Steps from a to b and from a to k, not from k to b: lines over three steps, the hider at each of them. */
    private static void asMuchAsHidesFarOff() {
        // From 0 to 3 with HEIGHT 12: the line is 4 high at 1 and 8 high at 2.
        Due.holds("at 1, on the line", !seen(0, 3, 0, 4, 0, 12));
        Due.holds("at 1, below it", seen(0, 3, 0, 3, 0, 12));
        Due.holds("at 2, on the line", !seen(0, 3, 0, 0, 8, 12));
        Due.holds("at 2, below it", seen(0, 3, 0, 0, 7, 12));
        Due.holds("west: at 2, on the line", !seen(3, 0, 12, 0, 4, 0));
        Due.holds("west: at 2, below it", seen(3, 0, 12, 0, 3, 0));
        Due.holds("west: at 1, on the line", !seen(3, 0, 12, 8, 0, 0));
        Due.holds("west: at 1, below it", seen(3, 0, 12, 7, 0, 0));
        // The line is 4 and 1/3 high at 1, 8 and 2/3 at 2: nothing is rounded.
        Due.holds("at 1, a third below", seen(0, 3, 0, 4, 0, 13));
        Due.holds("at 1, two thirds above", !seen(0, 3, 0, 5, 0, 13));
        Due.holds("at 2, two thirds below", seen(0, 3, 0, 0, 8, 13));
        Due.holds("at 2, a third above", !seen(0, 3, 0, 0, 9, 13));
    }

    /** The largest products: 19 steps and 20 of HEIGHT. */
    private static void steepestLines() {
        int[] up = new int[20];
        up[19] = 20;
        Due.holds("from 0 up to 19", seen(0, 19, up));
        up[18] = 18;
        Due.holds("18 at 18 is below the line", seen(0, 19, up));
        up[18] = 19;
        Due.holds("19 at 18 is above the line", !seen(0, 19, up));
        int[] down = new int[20];
        down[0] = 20;
        Due.holds("from 0 down to 19: over the level ones", seen(0, 19, down));
        down[18] = 1;
        Due.holds("1 at 18 is below the line", seen(0, 19, down) == 18 * 20 < 19 * 19);
        down[18] = 2;
        Due.holds("2 at 18 is above the line", !seen(0, 19, down));
    }

    /** What is MISSING hides nothing, be it for 1 DAY or for 99. */
    private static void whatIsMissingHidesNothing() {
        for (int missing : new int[] {1, 2, 98, 99}) {
            BottledViews x = Due.landOf(0, 20, 3, 0, 0);
            x.land(1, 1, missing);
            Due.due("MISSING for " + missing, x.ofPlace(0, 3) & Due.set(1, 2), Due.set(2));
            Due.due("nor to the west, MISSING for " + missing, x.ofPlace(2, 2), Due.set(0));
            x.land(1, 1, 0);
            Due.due("there again", x.ofPlace(0, 3) & Due.set(1, 2), Due.set(1));
        }
        BottledViews x = new BottledViews();
        for (int i = 1; i < 19; i++) {
            x.land(i, 1, 1);
        }
        Due.due("over 18 that are MISSING", x.ofPlace(0, 3), Due.set(19));
        Due.due("and back", x.ofPlace(19, 2), Due.set(0));
        Due.due("from the midst, west", x.ofPlace(9, 2), Due.set(0));
        Due.due("from the midst, east", x.ofPlace(9, 3), Due.set(19));
    }

    private static void oneIsThereAtZeroAlone() {
        for (int missing : new int[] {0, 1, 2, 99}) {
            BottledViews x = new BottledViews();
            x.land(6, 1, missing);
            Due.due("b MISSING for " + missing, x.ofPlace(5, 3), missing == 0 ? Due.set(6) : Due.set(7));
            Due.due("SIGHTS, b MISSING for " + missing, x.ofPlace(5, 4), 2);
            Due.due("count, MISSING for " + missing, x.count(3), missing == 0 ? 0 : 1);
        }
    }

    private static void oneMayBeMissingOneself() {
        BottledViews x = Due.bowl(10);
        for (int missing : new int[] {1, 99}) {
            x.land(10, 1, missing);
            Due.due("west", x.ofPlace(10, 2), 1023);
            Due.due("east", x.ofPlace(10, 3), ALL & ~2047);
            Due.due("SIGHTS", x.ofPlace(10, 4), 19);
        }
    }

    /** One doesn't SEE the PLACE where one is. */
    private static void ownPlaceIsNotSeen() {
        BottledViews x = Due.bowl(10);
        for (int i = 0; i < 20; i++) {
            int both = x.ofPlace(i, 2) | x.ofPlace(i, 3);
            Due.due("PLACE " + i + " from itself", both >> i & 1, 0);
        }
    }

    private static void endsOfTheRow() {
        BottledViews x = Due.bowl(0);
        Due.due("0 to the west", x.ofPlace(0, 2), 0);
        Due.due("0 to the east: all others", x.ofPlace(0, 3), ALL - 1);
        Due.due("0: SIGHTS", x.ofPlace(0, 4), 19);
        x = Due.bowl(19);
        Due.due("19 to the east", x.ofPlace(19, 3), 0);
        Due.due("19 to the west: all others", x.ofPlace(19, 2), 524287);
        Due.due("19: SIGHTS", x.ofPlace(19, 4), 19);
    }

    /** None stands between, so that the next one is always seen, if it is there. */
    private static void nextToEachOther() {
        BottledViews x = Due.landOf(0, 20, 0, 20, 0);
        for (int i = 0; i < 4; i++) {
            Due.due("the next one east of " + i, x.ofPlace(i, 3) >> (i + 1) & 1, 1);
            Due.due("the next one west of " + (i + 1), x.ofPlace(i + 1, 2) >> i & 1, 1);
        }
    }

    private static void sightsFromNoneToAll() {
        BottledViews x = Due.bowl(10);
        for (int i = 0; i < 20; i++) {
            Due.due("SIGHTS, " + i + " being MISSING", x.ofPlace(10, 4), 19 - (i > 10 ? i - 1 : i));
            x.land(i, 1, 1);
        }
        Due.due("none", x.ofPlace(10, 4), 0);
        Due.due("none to the west", x.ofPlace(10, 2), 0);
        Due.due("none to the east", x.ofPlace(10, 3), 0);
    }

    /** Promise 3: VILLAGES that are AT it, as a set: none, one, all five. */
    private static void villagesAtOnePlace() {
        BottledViews x = new BottledViews();
        Due.due("none", x.ofPlace(0, 5), 0);
        for (int i = 0; i < 5; i++) {
            x.village(0);
            Due.due("the first " + (i + 1), x.ofPlace(0, 5), (2 << i) - 1);
        }
        x.moves(2, 19);
        Due.due("all but 2", x.ofPlace(0, 5), 27);
        Due.due("2 alone", x.ofPlace(19, 5), 4);
        x.land(19, 1, 9);
        Due.due("AT one that is MISSING", x.ofPlace(19, 5), 4);
        Due.due("none beside it", x.ofPlace(18, 5), 0);
    }

    /** Promise 4: its number: 0 to 4; AT the first and the last PLACE, AT one that is MISSING, two AT one. */
    private static void villagesAreNumbered() {
        BottledViews x = new BottledViews();
        x.land(7, 1, 99);
        int[] places = {0, 19, 7, 7, 0};
        for (int i = 0; i < 5; i++) {
            Due.due("how many", x.count(0), i);
            Due.due("the next is not there yet", x.at(i), Due.BEYOND);
            Due.due("its number", x.village(places[i]), i);
        }
        for (int i = 0; i < 5; i++) {
            Due.due("AT", x.at(i), places[i]);
        }
        Due.due("a sixth", x.village(3), Due.FULL);
        Due.due("no sixth", x.at(5), Due.BEYOND);
        Due.due("five", x.count(0), 5);
    }

    private static void movesTellsWhereItWas() {
        BottledViews x = new BottledViews();
        for (int i = 0; i < 5; i++) {
            x.village(i);
        }
        for (int i = 0; i < 5; i++) {
            Due.due("to the last PLACE", x.moves(i, 19), i);
            Due.due("to the first PLACE", x.moves(i, 0), 19);
            Due.due("to where it is", x.moves(i, 0), 0);
            Due.due("AT", x.at(i), 0);
        }
        x.moves(3, 11);
        Due.due("the one ahead stays", x.at(2), 0);
        Due.due("the one behind stays", x.at(4), 0);
        Due.due("as many as before", x.count(0), 5);
    }
}
