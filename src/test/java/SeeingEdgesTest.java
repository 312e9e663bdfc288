/** The edges of Terms 3 and of promises 15 to 27: DAYS, draws, what is seen, what would be. */
public final class SeeingEdgesTest {
    private static final int ALL = Edge.ALL;

    public static void main(String[] args) {
        aDayLess();
        daysOneByOneOrAtOnce();
        dayByDay();
        drawsAreOfInts();
        drawnPlaceAndDays();
        drawnAheadOfTheDay();
        looseOneByOneOrAtOnce();
        viewBehind();
        viewBehindTheLastDay();
        againFirst();
        againUntilNinetyNine();
        againNever();
        bestOfSeveral();
        bestAtTheEnds();
        towerFromNoneToForty();
        towerToAndFromMissing();
        towerOverSeveral();
        mutualPairs();
        mutualOneSided();
        mutualByLines();
        unseenFromNoneToAll();
        coverOfNoneAndOfAll();
        coverFewestThenLeast();
        keepsDearestThenLeast();
        keepsNoneAndAll();
        blendAtTheEdges();
        blendByKind();
        thiefOfOneAndOfAll();
        thiefWereItThere();
        bothNeedsTwo();
        bothAtTheEnds();
        Due.end();
    }

    /** A DAY: of each PLACE that is MISSING one DAY less; of one that is there none. */
    private static void aDayLess() {
        BottledViews x = new BottledViews();
        int[] missing = {0, 1, 2, 98, 99};
        for (int i = 0; i < missing.length; i++) {
            x.land(15 + i, 1, missing[i]);
        }
        x.land(0, 1, 1);
        x.land(1, 1, 2);
        int[] still = {4, 2, 2, 2};
        for (int day = 1; day <= 4; day++) {
            Due.due("days(1), how many are MISSING", x.days(1), still[day - 1]);
            for (int i = 0; i < missing.length; i++) {
                Due.due("MISSING behind " + day, x.ofPlace(15 + i, 1), Math.max(0, missing[i] - day));
            }
            Due.due("HEIGHT stays", x.ofPlace(19, 0), 5);
        }
        Due.due("the last but one of 99", x.days(94), 1);
        Due.due("1", x.ofPlace(19, 1), 1);
        Due.due("the last of 99", x.days(1), 0);
        Due.due("0", x.ofPlace(19, 1), 0);
    }

    /** Promise 15: n (1 to 100) DAYS. */
    private static void daysOneByOneOrAtOnce() {
        for (int n : new int[] {1, 2, 99, 100}) {
            BottledViews once = new BottledViews();
            BottledViews byOne = new BottledViews();
            for (int i = 0; i < 20; i++) {
                once.land(i, 1, 5 * i);
                byOne.land(i, 1, 5 * i);
            }
            int last = 0;
            for (int i = 0; i < n; i++) {
                last = byOne.days(1);
            }
            Due.due("days(" + n + ")", once.days(n), last);
            Due.due("DAY " + n, once.count(2), n);
            for (int i = 0; i < 20; i++) {
                Due.due("MISSING behind " + n, once.ofPlace(i, 1), Math.max(0, 5 * i - n));
            }
        }
        BottledViews none = new BottledViews();
        Due.due("none is MISSING", none.days(1), 0);
        BottledViews all = new BottledViews();
        for (int i = 0; i < 20; i++) {
            all.land(i, 1, 2);
        }
        Due.due("all are MISSING", all.days(1), 20);
        Due.due("all are there", all.days(1), 0);
    }

    /** DAY (0 to 9999; 0 at first): all the way, by 100 and by 99. */
    private static void dayByDay() {
        BottledViews x = new BottledViews();
        Due.due("DAY 0", x.count(2), 0);
        for (int i = 1; i <= 99; i++) {
            x.days(100);
            Due.due("DAY", x.count(2), 100 * i);
        }
        x.days(98);
        Due.due("DAY 9998", x.count(2), 9998);
        Due.due("two more are too many", x.days(2), Due.STATE);
        Due.due("two by draws are too many", x.loose(2), Due.STATE);
        Due.due("DAY stays", x.count(2), 9998);
        Due.due("z stays", x.count(9), 1);
        x.days(1);
        Due.due("DAY 9999", x.count(2), 9999);
        Due.due("one more is too many", x.days(1), Due.STATE);
        Due.due("DAY 9999 stays", x.count(2), 9999);
    }

    private static int next(int z) {
        return z * 1103515245 + 12345;
    }

    /** z is an int that wraps; what a draw gives is z >>> 8, which is never below 0. */
    private static void drawsAreOfInts() {
        int[] seeds = {0, 1, -1, 2, Edge.LEAST, Edge.MOST, 12345, -12345, Due.BEYOND, 987654321};
        for (int seed : seeds) {
            BottledViews x = new BottledViews();
            x.seed(seed);
            int z = seed;
            int[] missing = new int[20];
            for (int day = 0; day < 40; day++) {
                z = next(z);
                int place = (int) ((z & 0xFFFFFFFFL) / 256 % 20);
                z = next(z);
                missing[place] = (int) ((z & 0xFFFFFFFFL) / 256 % 10);
                int count = 0;
                for (int i = 0; i < 20; i++) {
                    missing[i] = Math.max(0, missing[i] - 1);
                    count += missing[i] > 0 ? 1 : 0;
                }
                Due.due("loose(1), seed " + seed + ", DAY " + day, x.loose(1), count);
                Due.due("z, seed " + seed + ", DAY " + day, x.count(9), z);
            }
            for (int i = 0; i < 20; i++) {
                Due.due("MISSING of " + i + ", seed " + seed, x.ofPlace(i, 1), missing[i]);
            }
        }
    }

    /** The first seed whose two draws are the rests that are told. */
    private static int seedFor(int place, int days) {
        for (int seed = 0; seed < 1000000; seed++) {
            int first = next(seed);
            int second = next(first);
            if ((first >>> 8) % 20 == place && (second >>> 8) % 10 == days) {
                return seed;
            }
        }
        Due.holds("a seed for " + place + ", " + days, false);
        return 0;
    }

    /** The first one's rest by 20, 0 to 19; the second one's rest by 10, 0 to 9. */
    private static void drawnPlaceAndDays() {
        for (int place = 0; place < 20; place++) {
            for (int days = 0; days < 10; days++) {
                BottledViews x = new BottledViews();
                x.seed(seedFor(place, days));
                Due.due("how many", x.loose(1), days > 1 ? 1 : 0);
                Due.due("MISSING of " + place + " for " + days, x.ofPlace(place, 1), Math.max(0, days - 1));
                Due.due("a DAY", x.count(2), 1);
            }
        }
    }

    /** It is MISSING for so many, whatever it was ahead; then a DAY. */
    private static void drawnAheadOfTheDay() {
        for (int before : new int[] {0, 1, 5, 99}) {
            for (int days : new int[] {0, 1, 9}) {
                BottledViews x = new BottledViews();
                x.land(7, 1, before);
                x.land(8, 1, 3);
                x.seed(seedFor(7, days));
                x.loose(1);
                Due.due("from " + before + " to " + days, x.ofPlace(7, 1), Math.max(0, days - 1));
                Due.due("the others have one less", x.ofPlace(8, 1), 2);
            }
        }
    }

    /** Promise 16: n (1 to 40) DAYS by draws. */
    private static void looseOneByOneOrAtOnce() {
        for (int n : new int[] {1, 2, 39, 40}) {
            BottledViews once = new BottledViews();
            BottledViews byOne = new BottledViews();
            int last = 0;
            for (int i = 0; i < n; i++) {
                last = byOne.loose(1);
            }
            Due.due("loose(" + n + ")", once.loose(n), last);
            Due.due("DAY", once.count(2), n);
            Due.due("z", once.count(9), byOne.count(9));
            for (int i = 0; i < 20; i++) {
                Due.due("MISSING of " + i, once.ofPlace(i, 1), byOne.ofPlace(i, 1));
            }
        }
    }

    /** Promise 17: BEHIND n DAYS (0 to 100). */
    private static void viewBehind() {
        BottledViews x = Due.bowl(10);
        x.village(10);
        int[] places = {0, 3, 9, 11, 15, 19};
        int[] missing = {1, 2, 50, 98, 99, 99};
        for (int i = 0; i < places.length; i++) {
            x.land(places[i], 1, missing[i]);
        }
        for (int n = 0; n <= 100; n++) {
            int west = 1023;
            int east = ALL & ~2047;
            for (int i = 0; i < places.length; i++) {
                int gone = missing[i] > n ? Due.set(places[i]) : 0;
                west &= ~gone;
                east &= ~gone;
            }
            Due.due("west BEHIND " + n, x.view(0, 0, n), west);
            Due.due("east BEHIND " + n, x.view(0, 1, n), east);
        }
        BottledViews hidden = new BottledViews();
        hidden.village(5);
        hidden.land(6, 1, 4);
        Due.due("what hides is MISSING", hidden.view(0, 1, 3), Due.set(7));
        Due.due("and is there again", hidden.view(0, 1, 4), Due.set(6));
        Due.due("no west of 0", at(0).view(0, 0, 100), 0);
        Due.due("no east of 19", at(19).view(0, 1, 100), 0);
        Due.due("west of 19", at(19).view(0, 0, 100), Due.set(18));
        Due.due("east of 0", at(0).view(0, 1, 100), Due.set(1));
    }

    private static BottledViews at(int... places) {
        BottledViews x = new BottledViews();
        for (int place : places) {
            x.village(place);
        }
        return x;
    }

    /** All this is only thought, DAY beyond 9999, too. */
    private static void viewBehindTheLastDay() {
        BottledViews x = at(5);
        Edge.lastDay(x);
        x.land(6, 1, 99);
        x.land(4, 1, 100 - 1);
        Due.due("BEHIND 98", x.view(0, 1, 98), Due.set(7));
        Due.due("BEHIND 99", x.view(0, 1, 99), Due.set(6));
        Due.due("BEHIND 100", x.view(0, 0, 100), Due.set(4));
        Due.due("AGAIN", x.again(0, 6), 99);
        x.tell(2);
        Due.due("behind 1 DAY", x.check(), 0);
        Due.due("DAY stays", x.count(2), 9999);
    }

    /** AGAIN: behind how many DAYS first: it may be hidden again later. */
    private static void againFirst() {
        BottledViews x = at(5);
        Due.due("now", x.again(0, 6), 0);
        Due.due("now, west", x.again(0, 4), 0);
        x.land(7, 1, 3);
        x.land(6, 1, 3);
        Due.due("both come at once: never", x.again(0, 7), Due.NONE);
        x.land(6, 1, 4);
        Due.due("one DAY ahead of what hides it", x.again(0, 7), 3);
        Due.due("though it is hidden later", x.view(0, 1, 4), Due.set(6));
        x.land(6, 1, 2);
        Due.due("one DAY behind what hides it", x.again(0, 7), Due.NONE);
        x.land(7, 1, 0);
        Due.due("seen now, hidden behind 2", x.again(0, 7), 0);
        x.land(5, 1, 99);
        Due.due("AT one that is MISSING", x.again(0, 7), 0);
    }

    private static void againUntilNinetyNine() {
        for (int missing = 0; missing <= 99; missing++) {
            BottledViews x = at(5);
            x.land(6, 1, missing);
            Due.due("MISSING for " + missing, x.again(0, 6), missing);
        }
        BottledViews x = Due.bowl(0);
        x.village(0);
        x.village(19);
        x.land(19, 1, 99);
        Due.due("the farthest", x.again(0, 19), 99);
        x.land(0, 1, 98);
        x.land(18, 1, 98);
        Due.due("from the other end the next one", x.again(1, 18), 98);
    }

    /** NONE: not by 100. */
    private static void againNever() {
        BottledViews x = at(5);
        Due.due("on the flat", x.again(0, 7), Due.NONE);
        Due.due("on the flat, the end", x.again(0, 0), Due.NONE);
        x.land(7, 1, 99);
        Due.due("MISSING for 99, and hidden then", x.again(0, 7), Due.NONE);
        x.land(6, 1, 99);
        Due.due("both for 99", x.again(0, 7), Due.NONE);
        x.land(7, 1, 98);
        Due.due("98 and 99", x.again(0, 7), 98);
        Due.due("the PLACE where it is", x.again(0, 5), Due.BEYOND);
        x.moves(0, 6);
        Due.due("no more the PLACE where it is", x.again(0, 5), 0);
    }

    /** BEST PLACE: that with most SIGHTS; of several the least. */
    private static void bestOfSeveral() {
        BottledViews flat = new BottledViews();
        Due.due("1 to 18 see two each", flat.best(0), 1);
        Due.due("two", flat.best(1), 2);
        flat.land(9, 0, 6);
        int most = 0;
        for (int i = 0; i < 20; i++) {
            most = Math.max(most, flat.ofPlace(i, 4));
        }
        Due.due("one alone is the most", flat.best(0), 9);
        Due.due("its SIGHTS", flat.best(1), most);
        BottledViews all = new BottledViews();
        for (int i = 0; i < 20; i++) {
            all.land(i, 1, 99);
        }
        Due.due("all see none: the least", all.best(0), 0);
        Due.due("none", all.best(1), 0);
        all.land(4, 1, 0);
        Due.due("all but 4 see one", all.best(0), 0);
        Due.due("one", all.best(1), 1);
        all.land(0, 1, 0);
        Due.due("0 sees 4 alone, 1 sees both", all.best(0), 1);
        Due.due("both", all.best(1), 2);
        all.land(0, 1, 1);
        Due.due("MISSING for one DAY is MISSING", all.best(0), 0);
        Due.due("one alone", all.best(1), 1);
    }

    private static void bestAtTheEnds() {
        for (int ground : new int[] {0, 1, 18, 19}) {
            BottledViews x = Due.bowl(ground);
            Due.due("bowl " + ground, x.ofPlace(ground, 4), 19);
            int least = 20;
            for (int i = 19; i >= 0; i--) {
                least = x.ofPlace(i, 4) == 19 ? i : least;
            }
            Due.due("BEST of bowl " + ground, x.best(0), least);
            Due.due("19 SIGHTS", x.best(1), 19);
        }
        BottledViews x = Due.bowl(19);
        for (int i = 0; i < 19; i++) {
            x.land(i, 0, 18 - i);
        }
        x.land(18, 0, 0);
        Due.due("the last PLACE", x.best(0), 19);
    }

    /** TOWER: how much higher (0 to 40), at least. */
    private static void towerFromNoneToForty() {
        // Over 1 step with HEIGHT k to 2 steps with HEIGHT 0 from HEIGHT a: (k - e) * 2 < -e from e 2 * k + 1 on.
        for (int k = 0; k <= 20; k++) {
            for (int a : new int[] {0, 1, 2, 19, 20}) {
                int due = Math.max(0, 2 * k + 1 - a);
                BottledViews x = Due.landOf(a, k, 0);
                Due.due("from " + a + " over " + k, x.tower(0, 2), due > 40 ? Due.NONE : due);
                BottledViews west = Due.landOf(0, k, a);
                Due.due("west, from " + a + " over " + k, west.tower(2, 0), due > 40 ? Due.NONE : due);
            }
        }
        BottledViews x = Due.landOf(1, 20, 0);
        Due.due("40", x.tower(0, 2), 40);
        x.land(0, 0, 0);
        Due.due("41", x.tower(0, 2), Due.NONE);
        x.land(2, 0, 1);
        Due.due("40 to one that is higher", x.tower(0, 2), 40);
        Due.due("HEIGHT stays", x.ofPlace(0, 0), 0);
        Due.due("to the last PLACE", new BottledViews().tower(0, 19), 1);
        Due.due("to the first PLACE", new BottledViews().tower(19, 0), 1);
        Due.due("to the next one", Due.landOf(0, 20).tower(0, 1), 0);
        Due.due("down to the next one", Due.landOf(20, 0).tower(0, 1), 0);
    }

    /** NONE: .. (or it is MISSING). */
    private static void towerToAndFromMissing() {
        for (int missing : new int[] {1, 99}) {
            BottledViews x = Due.landOf(0, 3, 0);
            x.land(2, 1, missing);
            Due.due("it is MISSING for " + missing, x.tower(0, 2), Due.NONE);
            x.land(2, 1, 0);
            Due.due("it is there", x.tower(0, 2), 7);
            x.land(0, 1, missing);
            Due.due("one's own PLACE is MISSING for " + missing, x.tower(0, 2), 7);
            x.land(1, 1, missing);
            Due.due("what hides is MISSING for " + missing, x.tower(0, 2), 0);
        }
    }

    private static void towerOverSeveral() {
        // Over 2 at 1, 5 at 2 to 0 at 3: e > 3 at 1 from (2-e)*3 < -e; e > 15 at 2 from (5-e)*3 < -2e.
        BottledViews x = Due.landOf(0, 2, 5, 0);
        Due.due("the one that hides most", x.tower(0, 3), 16);
        x.land(0, 0, 15);
        Due.due("on the line", x.tower(0, 3), 1);
        x.land(0, 0, 16);
        Due.due("above it", x.tower(0, 3), 0);
        x.land(2, 1, 1);
        x.land(0, 0, 0);
        Due.due("the other alone", x.tower(0, 3), 4);
    }

    /** MUTUAL: pairs of VILLAGES: from none to ten. */
    private static void mutualPairs() {
        Due.due("no VILLAGES", at().mutual(), 0);
        Due.due("one VILLAGE", at(5).mutual(), 0);
        Due.due("side by side", at(5, 6).mutual(), 1);
        Due.due("one between", at(5, 7).mutual(), 0);
        Due.due("AT one PLACE", at(5, 5).mutual(), 0);
        Due.due("five AT one PLACE", at(5, 5, 5, 5, 5).mutual(), 0);
        Due.due("two and three", at(5, 5, 6, 6, 6).mutual(), 6);
        Due.due("the ends of the row", at(0, 19).mutual(), 0);
        BottledViews x = at(0, 5, 10, 15, 19);
        int[] heights = {20, 6, 0, 6, 20};
        int[] places = {0, 5, 10, 15, 19};
        for (int i = 0; i < 20; i++) {
            x.land(i, 1, 1);
        }
        for (int i = 0; i < 5; i++) {
            x.land(places[i], 0, heights[i]);
            x.land(places[i], 1, 0);
            Due.due("all of " + (i + 1) + " in a bowl", x.mutual(), i * (i + 1) / 2);
        }
    }

    /** Each of which SEES the PLACE of the other one. */
    private static void mutualOneSided() {
        BottledViews x = at(5, 6);
        x.land(5, 1, 1);
        Due.due("the one is MISSING", x.mutual(), 0);
        x.land(5, 1, 0);
        x.land(6, 1, 99);
        Due.due("the other is MISSING", x.mutual(), 0);
        x.land(6, 1, 0);
        Due.due("both are there", x.mutual(), 1);
    }

    /** By the HEIGHTS as they are: on the line is hidden, just above it is not, from whichever side. */
    private static void mutualByLines() {
        int[][] rows = {{5, 4, 4, 1}, {4, 4, 5, 1}, {5, 5, 5, 0}, {5, 4, 3, 0}, {3, 4, 5, 0}, {5, 4, 5, 1}, {5, 5, 6, 1},
            {6, 5, 5, 1}, {20, 10, 0, 0}, {20, 9, 0, 1}, {0, 9, 20, 1}, {20, 10, 1, 1}};
        for (int[] r : rows) {
            BottledViews x = Due.landOf(r[0], r[1], r[2]);
            x.village(0);
            x.village(2);
            Due.due("over " + r[0] + ", " + r[1] + ", " + r[2], x.mutual(), r[3]);
        }
    }

    /** UNSEEN: PLACES that no VILLAGE SEES (and at which none is). */
    private static void unseenFromNoneToAll() {
        Due.due("no VILLAGES: all", at().unseen(), ALL);
        BottledViews x = Due.bowl(10);
        x.village(10);
        Due.due("none", x.unseen(), 0);
        x.land(10, 1, 99);
        Due.due("its own PLACE is MISSING, but it is there", x.unseen(), 0);
        x.land(0, 1, 1);
        x.land(19, 1, 1);
        Due.due("the ends are MISSING", x.unseen(), Due.set(0, 19));
        x.village(0);
        Due.due("one is at the one end", x.unseen(), Due.set(19));
        Due.due("AT 0", at(0).unseen(), ALL & ~Due.set(0, 1));
        Due.due("AT 19", at(19).unseen(), ALL & ~Due.set(18, 19));
        Due.due("five", at(0, 4, 9, 14, 19).unseen(), ALL & ~Due.set(0, 1, 3, 4, 5, 8, 9, 10, 13, 14, 15, 18, 19));
    }

    /** BOTTLES with these PLACES, one side of 10 each; all is there again. */
    private static BottledViews cellar(int... sets) {
        BottledViews x = Due.bowl(10);
        x.village(10);
        for (int set : sets) {
            for (int i = 0; i < 20; i++) {
                x.land(i, 1, 0);
            }
            Due.holds("fill", x.fill(0, 0, set > 1023 ? 1 : 0, set) >= 0);
        }
        return x;
    }

    /** Promise 23: a set of PLACES (0 to 2^20 - 1). NONE: by none. */
    private static void coverOfNoneAndOfAll() {
        Due.due("none, without BOTTLES", at().cover(0), 0);
        Due.due("all, without BOTTLES", at().cover(ALL), Due.NONE);
        BottledViews x = cellar(1023, ALL & ~2047);
        Due.due("none", x.cover(0), 0);
        Due.due("all but 10", x.cover(ALL & ~1024), 3);
        Due.due("10 is in none", x.cover(1024), Due.NONE);
        Due.due("all", x.cover(ALL), Due.NONE);
        Due.due("the first PLACE", x.cover(1), 1);
        Due.due("the last PLACE", x.cover(Due.set(19)), 2);
        BottledViews eight = cellar(1, 2, 4, 8, 16, 32, 64, 128);
        for (int set = 0; set < 256; set++) {
            Due.due("each by its own", eight.cover(set), set);
        }
        Due.due("one too many", eight.cover(256), Due.NONE);
        Due.due("one too many among eight", eight.cover(511), Due.NONE);
    }

    /** The fewest BOTTLES; of several sets the least. */
    private static void coverFewestThenLeast() {
        int one = Due.set(1);
        BottledViews same = cellar(one, one, one, one, one, one, one, one);
        Due.due("the least of eight", same.cover(one), 1);
        for (int i = 0; i < 7; i++) {
            same.open(i);
            Due.due("the least of " + (7 - i), same.cover(one), 2 << i);
        }
        same.open(7);
        Due.due("all are OPEN", same.cover(one), Due.NONE);
        BottledViews few = cellar(Due.set(1), Due.set(2), Due.set(3), Due.set(4), 0x3E0, Due.set(6), Due.set(5), 0x1E);
        Due.due("one, though its number is higher", few.cover(0x1E), Due.set(7));
        Due.due("two", few.cover(0x3E | 0x3E0), Due.set(4, 7));
        Due.due("of sets of two the least", few.cover(Due.set(1, 2)), Due.set(7));
        Due.due("the least of two single ones", few.cover(Due.set(5)), Due.set(4));
        few.open(4);
        Due.due("then the other", few.cover(Due.set(5)), Due.set(6));
        few.open(7);
        Due.due("four, then", few.cover(0x1E), 15);
        BottledViews pairs = cellar(Due.set(1, 2), Due.set(3, 4), Due.set(1, 3), Due.set(2, 4));
        Due.due("{0, 1} is less than {2, 3}", pairs.cover(0x1E), 3);
        BottledViews turned = cellar(Due.set(1, 3), Due.set(1, 2), Due.set(3, 4), Due.set(2, 4));
        Due.due("{1, 2} is less than {0, 3}", turned.cover(0x1E), Due.set(1, 2));
    }

    /** KEEPS: that COST most together, no two of which have a PLACE LEFT both; of several the least. */
    private static void keepsDearestThenLeast() {
        int one = Due.set(1);
        BottledViews same = cellar(one, one, one, one, one, one, one, one);
        Due.due("one alone, the least", same.keeps(0), 1);
        Due.due("its COSTS", same.keeps(1), 11);
        same.become(7, 30);
        same.days(1);
        Due.due("the dearest", same.keeps(0), Due.set(7));
        Due.due("dearer by 1", same.keeps(1), 12);
        BottledViews x = cellar(Due.set(1, 2), Due.set(2, 3), Due.set(3, 4));
        Due.text(x, 1, "7");
        Due.due("the outer two", x.keeps(0), Due.set(0, 2));
        x.become(1, 10);
        Due.due("BLUE is as dear as the two: the least set", x.keeps(0), Due.set(1));
        Due.due("14", x.keeps(1), 14);
        x.become(0, 60);
        x.days(1);
        Due.due("dearer than it", x.keeps(0), Due.set(0, 2));
        Due.due("7 + 1 + 1 + 7", x.keeps(1), 16);
        BottledViews touch = cellar(Due.set(1, 2), Due.set(3, 4), Due.set(12));
        Due.due("edges that touch don't matter", touch.keeps(0), 7);
    }

    private static void keepsNoneAndAll() {
        Due.due("no BOTTLES: none", at().keeps(0), 0);
        Due.due("no BOTTLES: 0", at().keeps(1), 0);
        BottledViews x = cellar(1, 2, 4, 8, 16, 32, 64, 128);
        Due.due("all", x.keeps(0), 255);
        Due.due("all COST", x.keeps(1), 8 * 2 + 10 + 9 + 8 + 7 + 6 + 5 + 4 + 3);
        Due.due("as much as count tells", x.count(5), x.keeps(1));
        Due.text(x, 1, "9999");
        for (int i = 0; i < 7; i++) {
            x.become(i, 49);
        }
        Due.due("the dearest of all", x.keeps(1), 7 * (1998 + 45) + 999);
        Due.text(x, 1, "0");
        Due.due("LONG ones, 45 each; the free one is no dearer", x.keeps(0), 127);
        for (int i = 0; i < 7; i++) {
            x.become(i, 40);
        }
        Due.due("all are free: the least set", x.keeps(0), 0);
        Due.due("they COST 0", x.keeps(1), 0);
        Due.text(x, 1, "1");
        for (int i = 0; i < 8; i++) {
            x.open(i);
        }
        Due.due("nothing LEFT, but they COST", x.keeps(0), 255);
        Due.due("2 for LONG, 1 for WHITE", x.keeps(1), 15);
    }

    /** They join, if nothing is LEFT in both, and a PLACE is LEFT in the one beside one that is LEFT in the other. */
    private static void blendAtTheEdges() {
        BottledViews x = cellar(Due.set(0), Due.set(1), Due.set(2), Due.set(8, 9), Due.set(11), Due.set(18), Due.set(19),
            Due.set(1, 2));
        Due.due("0 and 1", x.blend(0, 1), 3);
        Due.due("1 and 0", x.blend(1, 0), 3);
        Due.due("0 and 2 don't touch", x.blend(0, 2), Due.STATE);
        Due.due("2 and 0 don't touch", x.blend(2, 0), Due.STATE);
        Due.due("9 and 11 don't touch", x.blend(3, 4), Due.STATE);
        Due.due("18 and 19", x.blend(5, 6), Due.set(18, 19));
        Due.due("19 and 18", x.blend(6, 5), Due.set(18, 19));
        Due.due("the ends of the row don't touch", x.blend(0, 6), Due.STATE);
        Due.due("nor the other way round", x.blend(6, 0), Due.STATE);
        Due.due("0 and 1, 2", x.blend(0, 7), 7);
        Due.due("1 is LEFT in both, though 2 is beside it", x.blend(1, 7), Due.STATE);
        Due.due("nor the other way round", x.blend(7, 1), Due.STATE);
        BottledViews y = cellar(Due.set(0, 4, 8), Due.set(2, 6), Due.set(1, 9), Due.set(7));
        Due.due("side by side nowhere", y.blend(0, 1), Due.STATE);
        Due.due("in two places", y.blend(0, 2), Due.set(0, 1, 4, 8, 9));
        Due.due("with one on both sides", y.blend(3, 0), Due.set(0, 4, 7, 8));
    }

    /** What is LEFT counts, not what is held. */
    private static void blendByKind() {
        BottledViews x = cellar(Due.set(7), Due.set(8, 6));
        Due.due("6, 7, 8", x.blend(0, 1), Due.set(6, 7, 8));
        x.become(1, 10);
        Due.due("BLUE: 8 is not LEFT, 6 is", x.blend(0, 1), Due.set(6, 7));
        x.become(0, 20);
        Due.due("CUT: 0 comes along", x.blend(1, 0), Due.set(0, 6, 7));
        x.become(0, 26);
        Due.due("CUT: 6 is LEFT in both", x.blend(0, 1), Due.STATE);
        x.become(0, 30);
        x.days(17);
        Due.due("OLD: 7 is 3 steps off", x.blend(0, 1), Due.STATE);
        x.become(0, 0);
        x.open(0);
        Due.due("OPEN", x.blend(0, 1), Due.STATE);
        x.open(1);
        Due.due("both OPEN", x.blend(0, 1), Due.STATE);
    }

    /** Promise 26: a set of PLACES (1 to 2^20 - 1). */
    private static void thiefOfOneAndOfAll() {
        BottledViews x = at();
        Due.due("0", x.thief(Due.set(0)), Due.set(1));
        Due.due("19", x.thief(Due.set(19)), Due.set(18));
        for (int i = 1; i < 19; i++) {
            Due.due("on the flat " + i, x.thief(Due.set(i)), Due.set(i - 1, i + 1));
        }
        Due.due("all", x.thief(ALL), 0);
        Due.due("two", x.thief(3), 0);
        BottledViews bowl = Due.bowl(0);
        Due.due("all but 0, from 0", bowl.thief(ALL - 1), Due.set(0));
        Due.due("all, from none", bowl.thief(ALL), 0);
        BottledViews end = Due.bowl(19);
        Due.due("all but 19, from 19", end.thief(524287), Due.set(19));
        BottledViews midst = Due.bowl(10);
        Due.due("both sides are not one VIEW", midst.thief(Due.set(9, 11)) & Due.set(10), 0);
        // From 11 the PLACE 10 hides 9, being as low; from 12 on one looks down over it at the whole slope beyond.
        Due.due("west of 10", midst.thief(1023), ALL & ~1023 & ~Due.set(11));
        Due.due("east of 10", midst.thief(ALL & ~2047), 2047 & ~Due.set(9));
    }

    /** Were it there (all else as it is). */
    private static void thiefWereItThere() {
        BottledViews x = at();
        for (int i = 0; i < 20; i++) {
            x.land(i, 1, 99);
        }
        Due.due("all are MISSING: from all others", x.thief(Due.set(5)), ALL & ~Due.set(5));
        Due.due("5 hides 6 then, and 6 hides 5", x.thief(Due.set(5, 6)), 0);
        x.land(6, 0, 6);
        Due.due("6 over 5 from the west", x.thief(Due.set(5, 6)), 31);
        x.land(2, 1, 0);
        Due.due("2 hides nothing that is higher, but 5", x.thief(Due.set(5, 6)), Due.set(2, 3, 4));
        Due.due("6 alone", x.thief(Due.set(6)), ALL & ~Due.set(6));
        Due.due("it stays MISSING", x.count(3), 19);
        for (int missing : new int[] {1, 99}) {
            BottledViews flat = at();
            flat.land(5, 1, missing);
            Due.due("5 is told, MISSING for " + missing, flat.thief(Due.set(5)), Due.set(4, 6));
            Due.due("5 is else, MISSING for " + missing, flat.thief(Due.set(4)), Due.set(3, 5, 6));
        }
    }

    /** BOTH: SEEN by two VILLAGES from unlike sides. */
    private static void bothNeedsTwo() {
        Due.due("none", at().both(), 0);
        BottledViews bowl = Due.bowl(10);
        bowl.village(10);
        Due.due("one alone, though it looks both ways", bowl.both(), 0);
        bowl.village(10);
        Due.due("two AT one PLACE", bowl.both(), 0);
        Due.due("between", at(5, 7).both(), Due.set(6));
        Due.due("the other way round", at(7, 5).both(), Due.set(6));
        Due.due("side by side", at(5, 6).both(), 0);
        Due.due("too far", at(5, 8).both(), 0);
        BottledViews line = Due.landOf(9, 5, 2, 0, 1);
        line.village(0);
        line.village(1);
        Due.due("both look east", line.both(), 0);
        line.village(4);
        Due.due("from the east, too", line.both(), line.view(2, 0, 0) & (line.view(0, 1, 0) | line.view(1, 1, 0)));
        BottledViews gone = at(5, 7);
        gone.land(6, 1, 1);
        Due.due("it is MISSING", gone.both(), 0);
        gone.land(6, 1, 0);
        gone.land(5, 1, 99);
        Due.due("the VILLAGES' own PLACE is MISSING", gone.both(), Due.set(6));
    }

    private static void bothAtTheEnds() {
        BottledViews x = at(0, 19);
        for (int i = 0; i < 20; i++) {
            x.land(i, 1, 1);
        }
        x.land(9, 1, 0);
        Due.due("from the ends of the row", x.both(), Due.set(9));
        x.land(0, 1, 0);
        x.land(19, 1, 0);
        Due.due("never the ends themselves", x.both(), Due.set(9));
        BottledViews five = at(0, 2, 4, 6, 8);
        Due.due("four between five", five.both(), Due.set(1, 3, 5, 7));
        BottledViews row = at(0, 1, 2, 3, 4);
        Due.due("1 to 3, where VILLAGES are", row.both(), Due.set(1, 2, 3));
    }
}
