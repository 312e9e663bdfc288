/** The edges of Terms 1 and of promises 7 to 11: what is FILLED, LEFT, COSTS, AGE, OPEN. */
public final class BottleEdgesTest {
    private static final int ALL = Edge.ALL;

    public static void main(String[] args) {
        oneAtLeastAndAllInView();
        eightBottles();
        everyKindWithEveryNumber();
        daysThatAreMissing();
        namesOfGrows();
        filledOnceMore();
        ageIsHeldAtMost();
        openOnesDoNotAge();
        whiteKeepsAll();
        blueFromThreeSteps();
        cutShowsItsNumber();
        oldBySteps();
        vintageByHalfTheAge();
        leaguesFromNoneToAll();
        costsOfWhiteAndBlue();
        costsOfCutAndForged();
        costsOfOldAndVintage();
        heldAheadOfTheKind();
        namesOfCosts();
        becomes();
        as();
        openGivesBackWhatIsLeft();
        openWithNothingToGive();
        openCut();
        nothingIsLeftOfWhateverKind();
        Due.end();
    }

    /** A bowl whose ground is a VILLAGE's, so that it sees all others. */
    private static BottledViews bowl(int ground) {
        BottledViews x = Due.bowl(ground);
        x.village(ground);
        return x;
    }

    private static BottledViews bottled(int ground, int km, int side, int places) {
        BottledViews x = bowl(ground);
        Due.due("fill", x.fill(km, 0, side, places), 0);
        return x;
    }

    private static void pass(BottledViews x, int days) {
        if (days > 0) {
            x.days(days);
        }
    }

    /** With some PLACES (one at least): one alone, the farthest, all that a VIEW has. */
    private static void oneAtLeastAndAllInView() {
        BottledViews x = bottled(0, 0, 1, ALL - 1);
        Due.due("all are held", x.ofBottle(0, 3), ALL - 1);
        Due.due("all are MISSING", x.count(3), 19);
        Due.due("but not where it is", x.ofPlace(0, 1), 0);
        Due.due("none is in the VIEW", x.view(0, 1, 0), 0);
        x = bottled(19, 0, 0, 524287);
        Due.due("all are held, west", x.ofBottle(0, 3), 524287);
        Due.due("all are MISSING, west", x.count(3), 19);
        x = bottled(0, 0, 1, Due.set(19));
        Due.due("the farthest alone, east", x.ofPlace(19, 1), 21);
        Due.due("one is MISSING", x.count(3), 1);
        x = bottled(19, 0, 0, Due.set(0));
        Due.due("the farthest alone, west", x.ofPlace(0, 1), 21);
        x = bottled(9, 0, 1, Due.set(10));
        Due.due("the nearest alone", x.ofPlace(10, 1), 3);
        x = bowl(0);
        Due.due("all but one that is not in the VIEW", x.fill(0, 0, 1, ALL), Due.STATE);
        x.land(7, 1, 1);
        Due.due("all, one being MISSING", x.fill(0, 0, 1, ALL - 1), Due.STATE);
        Due.due("all others", x.fill(0, 0, 1, (ALL - 1) & ~Due.set(7)), 0);
        Due.due("the one keeps its DAYS", x.ofPlace(7, 1), 1);
    }

    private static void eightBottles() {
        BottledViews x = bowl(0);
        for (int i = 0; i < 8; i++) {
            Due.due("how many", x.count(1), i);
            Due.due("the next is not there yet", x.ofBottle(i, 0), Due.BEYOND);
            Due.due("its number", x.fill(9 * i, 0, 1, Due.set(1 + i)), i);
        }
        Due.due("a ninth", x.fill(0, 0, 1, Due.set(9)), Due.FULL);
        Due.due("eight", x.count(1), 8);
        Due.due("no ninth", x.ofBottle(8, 0), Due.BEYOND);
        for (int i = 0; i < 8; i++) {
            Due.due("KIND of " + i, x.ofBottle(i, 0), 9 * i / 10);
            Due.due("m of " + i, x.ofBottle(i, 1), 9 * i % 10);
            Due.due("HOLDS of " + i, x.ofBottle(i, 3), Due.set(1 + i));
        }
        x.open(7);
        Due.due("an OPEN one leaves no room", x.fill(0, 0, 1, Due.set(9)), Due.FULL);
    }

    /** km: 10 times the KIND, and m: 0 to 69. */
    private static void everyKindWithEveryNumber() {
        BottledViews x = bottled(4, 0, 0, Due.set(3));
        int before = 0;
        for (int km = 0; km < 70; km++) {
            Due.due("become(0, " + km + ")", x.become(0, km), before);
            Due.due("KIND", x.ofBottle(0, 0), km / 10);
            Due.due("m", x.ofBottle(0, 1), km % 10);
            Due.due("as itself", x.as(0, km / 10), km % 10);
            before = km / 10;
            BottledViews y = bottled(4, km, 0, Due.set(3));
            Due.due("KIND as FILLED", y.ofBottle(0, 0), km / 10);
            Due.due("m as FILLED", y.ofBottle(0, 1), km % 10);
        }
    }

    /** GROWS is held within 1 to 99. */
    private static void daysThatAreMissing() {
        Object[][] want = {{"0", 1}, {"1", 1}, {"2", 2}, {"98", 98}, {"99", 99}, {"100", 99}, {"9999", 99}, {"0-1", 1},
            {"9999*9999*9999", 1 + 98 * (9999 * 9999 * 9999 > 0 ? 1 : 0)}};
        for (Object[] w : want) {
            BottledViews x = bowl(4);
            Due.due("text " + w[0], Due.text(x, 0, (String) w[0]), 1);
            x.fill(0, 0, 0, Due.set(2, 3));
            Due.due("MISSING by " + w[0], x.ofPlace(2, 1), (Integer) w[1]);
            Due.due("each of them by " + w[0], x.ofPlace(3, 1), (Integer) w[1]);
            Due.due("no other by " + w[0], x.count(3), 2);
        }
        BottledViews x = Due.landOf(0, 20, 0);
        x.village(0);
        x.fill(0, 0, 1, Due.set(1));
        Due.due("without a TEXT, HEIGHT 20", x.ofPlace(1, 1), 23);
        x.fill(0, 0, 1, Due.set(2));
        Due.due("without a TEXT, HEIGHT 0", x.ofPlace(2, 1), 3);
    }

    /** h HEIGHT, s steps from the VILLAGE, d DAY: the least and the most of each. */
    private static void namesOfGrows() {
        BottledViews x = bowl(0);
        Due.text(x, 0, "s*5");
        x.fill(0, 0, 1, Due.set(1, 19));
        Due.due("1 step", x.ofPlace(1, 1), 5);
        Due.due("19 steps", x.ofPlace(19, 1), 95);
        x = bowl(19);
        Due.text(x, 0, "s*5");
        x.fill(0, 0, 0, Due.set(18, 0));
        Due.due("1 step to the west", x.ofPlace(18, 1), 5);
        Due.due("19 steps to the west", x.ofPlace(0, 1), 95);
        x = Due.landOf(0, 0, 20);
        x.village(0);
        Due.text(x, 0, "h*4+3");
        x.fill(0, 0, 1, Due.set(1, 2));
        Due.due("HEIGHT 0", x.ofPlace(1, 1), 3);
        Due.due("HEIGHT 20", x.ofPlace(2, 1), 83);
        x = bowl(4);
        Due.text(x, 0, "d+7");
        x.fill(0, 0, 0, Due.set(3));
        Due.due("DAY 0", x.ofPlace(3, 1), 7);
        Edge.lastDay(x);
        Due.text(x, 0, "d-9950");
        x.fill(0, 0, 0, Due.set(3));
        Due.due("DAY 9999", x.ofPlace(3, 1), 49);
    }

    /** What is there again can be FILLED once more; it is held by both then. */
    private static void filledOnceMore() {
        BottledViews x = bottled(4, 0, 0, Due.set(3));
        x.days(2);
        Due.due("MISSING for one DAY more", x.ofPlace(3, 1), 1);
        Due.due("not yet", x.fill(0, 0, 0, Due.set(3)), Due.STATE);
        x.days(1);
        Due.due("there again", x.fill(0, 0, 0, Due.set(3)), 1);
        Due.due("the one holds it", x.ofBottle(0, 3), Due.set(3));
        Due.due("the other, too", x.ofBottle(1, 3), Due.set(3));
        Due.due("a new one is of AGE 0", x.ofBottle(1, 4), 0);
        Due.due("the one ahead is of AGE 3", x.ofBottle(0, 4), 3);
        Due.due("the one gives it back", x.open(0), 1);
        Due.due("the other has none to give", x.open(1), 0);
    }

    /** AGE is 1 more, 99 at most. */
    private static void ageIsHeldAtMost() {
        BottledViews x = bottled(4, 0, 0, Due.set(3));
        Due.due("AGE 0", x.ofBottle(0, 4), 0);
        for (int day = 1; day <= 101; day++) {
            x.days(1);
            Due.due("AGE behind " + day, x.ofBottle(0, 4), Math.min(99, day));
        }
        Due.due("DAY goes on", x.count(2), 101);
        x = bottled(4, 0, 0, Due.set(3));
        x.days(98);
        Due.due("98", x.ofBottle(0, 4), 98);
        x.days(100);
        Due.due("99 by 100 at once", x.ofBottle(0, 4), 99);
        x.loose(40);
        Due.due("99 by draws", x.ofBottle(0, 4), 99);
        BottledViews y = bottled(4, 0, 0, Due.set(3));
        y.days(80);
        y.loose(18);
        Due.due("98 by draws", y.ofBottle(0, 4), 98);
        y.loose(1);
        Due.due("99 by one draw more", y.ofBottle(0, 4), 99);
        y.loose(1);
        Due.due("99 at most by draws", y.ofBottle(0, 4), 99);
    }

    private static void openOnesDoNotAge() {
        BottledViews x = bowl(4);
        x.fill(0, 0, 0, Due.set(3));
        x.fill(0, 0, 0, Due.set(2));
        x.open(0);
        x.days(1);
        Due.due("AGE 0 stays", x.ofBottle(0, 4), 0);
        Due.due("the other's doesn't", x.ofBottle(1, 4), 1);
        x.open(1);
        x.days(100);
        x.loose(3);
        Due.due("AGE 1 stays", x.ofBottle(1, 4), 1);
    }

    private static void whiteKeepsAll() {
        BottledViews x = bottled(0, 9, 1, ALL - 1);
        for (int days : new int[] {0, 1, 18, 1, 79, 100}) {
            pass(x, days);
            Due.due("LEFT", x.ofBottle(0, 6), ALL - 1);
            Due.due("LEAGUES", x.ofBottle(0, 7), 19);
        }
    }

    /** BLUE: 3 steps from its FROM, or more. */
    private static void blueFromThreeSteps() {
        for (int kind : new int[] {1, 4}) {
            for (int place = 11; place < 20; place++) {
                BottledViews x = bottled(10, 10 * kind, 1, Due.set(place));
                Due.due("KIND " + kind + ", east " + place, x.ofBottle(0, 6), place >= 13 ? Due.set(place) : 0);
            }
            for (int place = 0; place < 10; place++) {
                BottledViews x = bottled(10, 10 * kind + 9, 0, Due.set(place));
                Due.due("KIND " + kind + ", west " + place, x.ofBottle(0, 6), place <= 7 ? Due.set(place) : 0);
            }
            BottledViews x = bottled(0, 10 * kind, 1, ALL - 1);
            Due.due("all from 3 on", x.ofBottle(0, 6), ALL & ~7);
            x.days(100);
            Due.due("whatever its AGE", x.ofBottle(0, 6), ALL & ~7);
            x.moves(0, 19);
            Due.due("by FROM, not by where the VILLAGE is now", x.ofBottle(0, 6), ALL & ~7);
        }
    }

    /** CUT: what it HOLDS, and the PLACE m. */
    private static void cutShowsItsNumber() {
        for (int kind : new int[] {2, 5}) {
            for (int m = 0; m < 10; m++) {
                BottledViews x = bottled(5, 10 * kind + m, 1, Due.set(6, 19));
                Due.due("KIND " + kind + ", m " + m, x.ofBottle(0, 6), Due.set(6, 19, m));
                Due.due("HOLDS stays", x.ofBottle(0, 3), Due.set(6, 19));
            }
            BottledViews x = bottled(9, 10 * kind, 0, Due.set(8));
            Due.due("LEAGUES to the tower that isn't", x.ofBottle(0, 7), 9);
            x.become(0, 10 * kind + 9);
            Due.due("FROM itself may be LEFT", x.ofBottle(0, 6), Due.set(8, 9));
            Due.due("it is no step", x.ofBottle(0, 7), 1);
            x.days(100);
            Due.due("whatever its AGE", x.ofBottle(0, 6), Due.set(8, 9));
        }
    }

    /** OLD: no farther from its FROM than 19 less AGE. */
    private static void oldBySteps() {
        BottledViews x = bottled(0, 30, 1, ALL - 1);
        BottledViews west = bottled(19, 39, 0, 524287);
        for (int age = 0; age <= 100; age++) {
            int steps = Math.max(0, 19 - age);
            Due.due("AGE " + age, x.ofBottle(0, 6), (2 << steps) - 2);
            Due.due("LEAGUES at AGE " + age, x.ofBottle(0, 7), steps);
            Due.due("west, AGE " + age, west.ofBottle(0, 6), 524287 & ~((1 << 19 - steps) - 1));
            x.days(1);
            west.days(1);
        }
        Due.due("HOLDS stays", x.ofBottle(0, 3), ALL - 1);
    }

    /** VINTAGE: as OLD, as if AGE were a half of it (cut). */
    private static void vintageByHalfTheAge() {
        BottledViews x = bottled(0, 60, 1, ALL - 1);
        for (int age = 0; age <= 100; age++) {
            int steps = Math.max(0, 19 - age / 2);
            Due.due("AGE " + age, x.ofBottle(0, 6), (2 << steps) - 2);
            Due.due("LEAGUES at AGE " + age, x.ofBottle(0, 7), steps);
            x.days(1);
        }
        Due.due("AGE itself is told whole", x.ofBottle(0, 4), 99);
    }

    /** LEAGUES: the most steps (0, if nothing is LEFT). */
    private static void leaguesFromNoneToAll() {
        for (int place = 1; place < 20; place++) {
            Due.due("east " + place, bottled(0, 0, 1, Due.set(place)).ofBottle(0, 7), place);
            Due.due("west " + place, bottled(19, 0, 0, Due.set(19 - place)).ofBottle(0, 7), place);
        }
        Due.due("the most of several", bottled(9, 0, 0, Due.set(2, 5, 8)).ofBottle(0, 7), 7);
        Due.due("BLUE without any LEFT", bottled(9, 10, 0, Due.set(7, 8)).ofBottle(0, 7), 0);
        BottledViews x = bottled(9, 0, 0, Due.set(2));
        x.open(0);
        Due.due("OPEN", x.ofBottle(0, 7), 0);
    }

    private static int cost(int km, String text, int age) {
        BottledViews x = bottled(10, km, 0, Due.set(3));
        Due.due("text " + text, Due.text(x, 1, text), 1);
        pass(x, age);
        return x.ofBottle(0, 8);
    }

    /** WHITE: v. BLUE: twice v. LONG: as BLUE, and 5 times m. */
    private static void costsOfWhiteAndBlue() {
        for (int m : new int[] {0, 9}) {
            Due.due("WHITE 0", cost(m, "0", 0), 0);
            Due.due("WHITE 999", cost(m, "999", 99), 999);
            Due.due("BLUE 0", cost(10 + m, "0", 0), 0);
            Due.due("BLUE 1", cost(10 + m, "1", 50), 2);
            Due.due("BLUE 999", cost(10 + m, "999", 99), 1998);
            Due.due("LONG 0", cost(40 + m, "0", 0), 5 * m);
            Due.due("LONG 999", cost(40 + m, "999", 99), 1998 + 5 * m);
        }
        Due.due("LONG, m 1", cost(41, "7", 0), 19);
    }

    /** CUT: half of v (quotients are cut). FORGED: 1. */
    private static void costsOfCutAndForged() {
        int[][] halves = {{0, 0}, {1, 0}, {2, 1}, {3, 1}, {998, 499}, {999, 499}};
        for (int[] h : halves) {
            Due.due("CUT " + h[0], cost(20, Integer.toString(h[0]), 0), h[1]);
            Due.due("CUT with m 9 " + h[0], cost(29, Integer.toString(h[0]), 99), h[1]);
            Due.due("FORGED " + h[0], cost(50, Integer.toString(h[0]), 0), 1);
            Due.due("FORGED with m 9 " + h[0], cost(59, Integer.toString(h[0]), 99), 1);
        }
    }

    /** OLD: v, and AGE. VINTAGE: as OLD, and AGE by 1 more than m (cut). */
    private static void costsOfOldAndVintage() {
        for (int age : new int[] {0, 1, 2, 8, 9, 10, 11, 19, 20, 49, 98, 99, 100}) {
            int held = Math.min(99, age);
            for (int m = 0; m < 10; m++) {
                Due.due("OLD, AGE " + age, cost(30 + m, "7", age), 7 + held);
                Due.due("VINTAGE, AGE " + age + ", m " + m, cost(60 + m, "7", age), 7 + held + held / (m + 1));
            }
        }
        Due.due("OLD 999", cost(30, "999", 99), 1098);
        Due.due("VINTAGE 999, m 0", cost(60, "999", 99), 1197);
        Due.due("VINTAGE 0, m 9, AGE 9", cost(69, "0", 9), 9);
        Due.due("VINTAGE 0, m 9, AGE 10", cost(69, "0", 10), 11);
    }

    /** The TEXT's v is held within 0 to 999 ahead of what the KIND does with it. */
    private static void heldAheadOfTheKind() {
        int[] low = {0, 0, 0, 3, 20, 1, 3};
        int[] high = {999, 1998, 499, 1002, 2018, 1, 1002};
        for (int kind = 0; kind < 7; kind++) {
            Due.due("0-9, KIND " + kind, cost(10 * kind + 4, "0-9", 3), low[kind]);
            Due.due("9999, KIND " + kind, cost(10 * kind + 4, "9999", 3), high[kind]);
            Due.due("1000, KIND " + kind, cost(10 * kind + 4, "1000", 3), high[kind]);
        }
    }

    /** k how many are LEFT, l LEAGUES, a AGE: the least and the most of each. */
    private static void namesOfCosts() {
        BottledViews x = bottled(0, 0, 1, ALL - 1);
        Due.text(x, 1, "k");
        Due.due("19 are LEFT", x.ofBottle(0, 8), 19);
        Due.text(x, 1, "l");
        Due.due("LEAGUES 19", x.ofBottle(0, 8), 19);
        x.become(0, 20);
        Due.text(x, 1, "k*2");
        Due.due("20 are LEFT", x.ofBottle(0, 8), 20);
        x.become(0, 60);
        x.days(100);
        Due.text(x, 1, "k*100+l*10");
        Due.due("none are LEFT", x.ofBottle(0, 8), 99 + 99);
        Due.text(x, 1, "a");
        x.become(0, 60);
        Due.due("AGE 99, whole for VINTAGE", x.ofBottle(0, 8), 99 + 99 + 99);
        x.become(0, 0);
        Due.due("AGE 99", x.ofBottle(0, 8), 99);
        BottledViews y = bottled(0, 0, 1, Due.set(1));
        Due.text(y, 1, "k*100+l*10+a");
        Due.due("1 is LEFT, LEAGUES 1, AGE 0", y.ofBottle(0, 8), 110);
    }

    /** Promise 9: the KIND that it was; all but KIND and m stays. */
    private static void becomes() {
        BottledViews x = bottled(10, 37, 0, Due.set(1, 8));
        x.days(12);
        Due.due("OLD, AGE 12", x.ofBottle(0, 6), Due.set(8));
        Due.due("to the last", x.become(0, 69), 3);
        Due.due("to the first", x.become(0, 0), 6);
        Due.due("to the same", x.become(0, 0), 0);
        Due.due("FROM", x.ofBottle(0, 2), 10);
        Due.due("HOLDS", x.ofBottle(0, 3), Due.set(1, 8));
        Due.due("AGE", x.ofBottle(0, 4), 12);
        Due.due("not OPEN", x.ofBottle(0, 5), 0);
        Due.due("all is LEFT in WHITE", x.ofBottle(0, 6), Due.set(1, 8));
        Due.due("MISSING stays", x.count(3), 0);
        x.open(0);
        Due.due("an OPEN one", x.become(0, 29), 0);
        Due.due("stays OPEN", x.ofBottle(0, 5), 1);
        Due.due("and of its AGE", x.ofBottle(0, 4), 12);
    }

    /** Promise 10: as its own KIND and those above, not as one under it or beside it. */
    private static void as() {
        int[][] above = {{0}, {1, 0}, {2, 0}, {3, 0}, {4, 1, 0}, {5, 2, 0}, {6, 3, 0}};
        BottledViews x = bottled(10, 0, 0, Due.set(1));
        for (int kind = 0; kind < 7; kind++) {
            for (int m : new int[] {0, 9}) {
                x.become(0, 10 * kind + m);
                for (int asked = 0; asked < 7; asked++) {
                    int want = Due.KIND;
                    for (int a : above[kind]) {
                        want = a == asked ? m : want;
                    }
                    Due.due("KIND " + kind + " as " + asked, x.as(0, asked), want);
                }
            }
        }
        x.open(0);
        Due.due("an OPEN one, too", x.as(0, 3), 9);
    }

    /** To OPEN one: all that is LEFT in it is there again at once; what is not LEFT stays MISSING. */
    private static void openGivesBackWhatIsLeft() {
        BottledViews x = bottled(0, 0, 1, ALL - 1);
        Due.due("all 19", x.open(0), 19);
        Due.due("none is MISSING", x.count(3), 0);
        Due.due("HOLDS nothing", x.ofBottle(0, 3), 0);
        x = bottled(0, 30, 1, ALL - 1);
        x.land(2, 1, 99);
        x.land(1, 1, 1);
        x.land(19, 1, 99);
        x.days(17);
        x.land(1, 1, 1);
        Due.due("OLD, AGE 17: 1 and 2", x.open(0), 2);
        Due.due("1 was MISSING for 1 DAY", x.ofPlace(1, 1), 0);
        Due.due("2 was MISSING for 82 DAYS", x.ofPlace(2, 1), 0);
        Due.due("19 is not LEFT and stays MISSING", x.ofPlace(19, 1), 82);
        Due.due("HOLDS nothing any more", x.ofBottle(0, 3), 0);
        Due.due("OPEN", x.ofBottle(0, 5), 1);
        Due.due("one is OPEN", x.count(4), 1);
        Due.due("again", x.open(0), Due.STATE);
    }

    private static void openWithNothingToGive() {
        BottledViews x = bottled(10, 10, 0, Due.set(8, 9));
        Due.due("BLUE with near ones alone", x.open(0), 0);
        Due.due("they stay MISSING", x.count(3), 2);
        Due.due("it is OPEN all the same", x.ofBottle(0, 5), 1);
        Due.due("and HOLDS nothing", x.ofBottle(0, 3), 0);
        x = bottled(10, 0, 0, Due.set(9));
        x.days(3);
        Due.due("what grew back is not counted", x.open(0), 0);
        x = bottled(10, 0, 0, Due.set(8, 9));
        x.days(2);
        x.land(8, 1, 0);
        Due.due("only what is MISSING still", x.open(0), 1);
    }

    /** CUT: the PLACE m is there again, too. */
    private static void openCut() {
        for (int m : new int[] {0, 9}) {
            for (int kind : new int[] {2, 5}) {
                BottledViews x = bottled(5, 10 * kind + m, 1, Due.set(6));
                x.land(m, 1, 99);
                Due.due("6 and the PLACE m", x.open(0), 2);
                Due.due("m is there", x.ofPlace(m, 1), 0);
                BottledViews y = bottled(5, 10 * kind + m, 1, Due.set(6));
                Due.due("m was there all the time", y.open(0), 1);
            }
        }
        BottledViews x = bottled(5, 26, 1, Due.set(6));
        Due.due("m is held, too: once", x.open(0), 1);
    }

    /** Nothing is LEFT in it, of whatever KIND it is. */
    private static void nothingIsLeftOfWhateverKind() {
        for (int was = 0; was < 7; was++) {
            BottledViews x = bottled(10, 10 * was + 3, 0, Due.set(2, 4));
            x.days(2);
            x.open(0);
            Due.text(x, 1, "k*100+l*10+5");
            int[] costs = {5, 10, 2, 7, 25, 1, 7};
            for (int kind = 0; kind < 7; kind++) {
                x.become(0, 10 * kind + 3);
                Due.due("LEFT of " + was + " as " + kind, x.ofBottle(0, 6), 0);
                Due.due("LEAGUES of " + was + " as " + kind, x.ofBottle(0, 7), 0);
                Due.due("COSTS of " + was + " as " + kind, x.ofBottle(0, 8), costs[kind]);
                Due.due("not to be OPENED once more", x.open(0), Due.STATE);
            }
        }
    }
}
