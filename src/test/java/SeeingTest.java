/** Promises 15 to 27: days, what is seen, what would be. */
public final class SeeingTest {
    private static final int ALL = 1048575;

    public static void main(String[] args) {
        days();
        loose();
        lastDay();
        view();
        again();
        best();
        tower();
        mutual();
        unseen();
        cover();
        keeps();
        blend();
        thief();
        both();
        Due.end();
    }

    private static void days() {
        BottledViews x = Due.bowl(10);
        x.village(10);
        x.fill(0, 0, 0, Due.set(9));
        x.fill(0, 0, 1, Due.set(12));
        x.open(1);
        x.land(0, 1, 2);
        x.land(1, 1, 1);
        Due.due("days(1)", x.days(1), 2);
        Due.due("one less", x.ofPlace(0, 1), 1);
        Due.due("DAY", x.count(2), 1);
        Due.due("AGE", x.ofBottle(0, 4), 1);
        Due.due("AGE of an OPEN one", x.ofBottle(1, 4), 0);
        Due.due("days(100)", x.days(100), 0);
        Due.due("DAY 101", x.count(2), 101);
        Due.due("not below 0", x.ofPlace(0, 1), 0);
        Due.due("days(0)", x.days(0), Due.BEYOND);
        Due.due("days(101)", x.days(101), Due.BEYOND);
        Due.due("days(-1)", x.days(-1), Due.BEYOND);
    }

    private static void loose() {
        BottledViews x = new BottledViews();
        int z = 7;
        x.seed(z);
        int[] missing = new int[20];
        for (int day = 0; day < 40; day++) {
            z = z * 1103515245 + 12345;
            int place = (z >>> 8) % 20;
            z = z * 1103515245 + 12345;
            missing[place] = (z >>> 8) % 10;
            for (int i = 0; i < 20; i++) {
                missing[i] = Math.max(0, missing[i] - 1);
            }
        }
        int count = 0;
        for (int i = 0; i < 20; i++) {
            count += missing[i] > 0 ? 1 : 0;
        }
        Due.due("loose(40)", x.loose(40), count);
        Due.due("z", x.count(9), z);
        Due.due("DAY", x.count(2), 40);
        for (int i = 0; i < 20; i++) {
            Due.due("MISSING of " + i, x.ofPlace(i, 1), missing[i]);
        }
        Due.due("loose(0)", x.loose(0), Due.BEYOND);
        Due.due("loose(41)", x.loose(41), Due.BEYOND);
        Due.due("loose(-1)", x.loose(-1), Due.BEYOND);
        Due.due("z stays", x.count(9), z);
        BottledViews corked = Due.bowl(10);
        corked.village(10);
        corked.fill(0, 0, 0, Due.set(9));
        corked.loose(3);
        Due.due("BOTTLES age by draws, too", corked.ofBottle(0, 4), 3);
    }

    private static void lastDay() {
        BottledViews x = new BottledViews();
        for (int i = 0; i < 99; i++) {
            x.days(100);
        }
        Due.due("DAY 9900", x.count(2), 9900);
        Due.due("above 9999", x.days(100), Due.STATE);
        Due.due("BEYOND ahead of STATE", x.days(101), Due.BEYOND);
        Due.due("to 9980", x.days(80), 0);
        Due.due("loose above 9999", x.loose(20), Due.STATE);
        Due.due("loose BEYOND ahead of STATE", x.loose(41), Due.BEYOND);
        Due.due("z stays", x.count(9), 1);
        x.image();
        x.loose(19);
        Due.due("DAY 9999 by draws", x.count(2), 9999);
        x.restore();
        x.loose(18);
        Due.due("DAY 9998", x.count(2), 9998);
        x.days(1);
        Due.due("DAY 9999", x.count(2), 9999);
        Due.due("no day more", x.days(1), Due.STATE);
        Due.due("no day by draws more", x.loose(1), Due.STATE);
        x.village(5);
        x.land(6, 1, 99);
        Due.due("thought beyond 9999", x.again(0, 6), 99);
    }

    private static void view() {
        BottledViews x = Due.bowl(10);
        x.village(10);
        x.land(12, 1, 5);
        x.land(3, 1, 99);
        Due.due("west now", x.view(0, 0, 0), 1023 & ~8);
        Due.due("east now", x.view(0, 1, 0), ALL & ~2047 & ~Due.set(12));
        Due.due("behind 4", x.view(0, 1, 4), ALL & ~2047 & ~Due.set(12));
        Due.due("behind 5", x.view(0, 1, 5), ALL & ~2047);
        Due.due("behind 98", x.view(0, 0, 98), 1023 & ~8);
        Due.due("behind 100", x.view(0, 0, 100), 1023);
        Due.due("only thought", x.ofPlace(12, 1), 5);
        Due.due("village 1", x.view(1, 0, 0), Due.BEYOND);
        Due.due("village -1", x.view(-1, 0, 0), Due.BEYOND);
        Due.due("side 2", x.view(0, 2, 0), Due.BEYOND);
        Due.due("side -1", x.view(0, -1, 0), Due.BEYOND);
        Due.due("n 101", x.view(0, 0, 101), Due.BEYOND);
        Due.due("n -1", x.view(0, 0, -1), Due.BEYOND);
    }

    private static void again() {
        BottledViews x = new BottledViews();
        x.village(5);
        Due.due("seen now", x.again(0, 6), 0);
        Due.due("never", x.again(0, 7), Due.NONE);
        x.land(6, 1, 10);
        Due.due("seen while what is between is MISSING", x.again(0, 7), 0);
        x.land(7, 1, 4);
        Due.due("seen before what is between is there", x.again(0, 7), 4);
        x.land(7, 1, 10);
        Due.due("both come at once", x.again(0, 7), Due.NONE);
        Due.due("99", x.land(4, 1, 99), 0);
        Due.due("again 99", x.again(0, 4), 99);
        Due.due("where it is", x.again(0, 5), Due.BEYOND);
        Due.due("place 20", x.again(0, 20), Due.BEYOND);
        Due.due("place -1", x.again(0, -1), Due.BEYOND);
        Due.due("village 1", x.again(1, 0), Due.BEYOND);
        Due.due("village -1", x.again(-1, 0), Due.BEYOND);
    }

    private static void best() {
        BottledViews x = new BottledViews();
        Due.due("of several the least", x.best(0), 1);
        Due.due("its SIGHTS", x.best(1), 2);
        x = Due.bowl(13);
        Due.due("the ground of the bowl", x.best(0), 13);
        Due.due("sees all", x.best(1), 19);
        x.land(13, 1, 9);
        Due.due("though it is MISSING", x.best(0), 13);
        for (int i = 0; i < 20; i++) {
            x.land(i, 1, 1);
        }
        Due.due("none is seen", x.best(1), 0);
        Due.due("the least of all", x.best(0), 0);
        Due.due("what 2", x.best(2), Due.BEYOND);
        Due.due("what -1", x.best(-1), Due.BEYOND);
    }

    private static void tower() {
        BottledViews x = new BottledViews();
        Due.due("the next one", x.tower(0, 1), 0);
        Due.due("over a flat one", x.tower(0, 2), 1);
        Due.due("to the west", x.tower(19, 0), 1);
        // Over k, 1 step off and 9 high, to b, 2 steps off and 5 high: (9 - e) * 2 < (5 - e) * 1 from e 14 on.
        x.land(1, 0, 9);
        Due.due("over a hill", x.tower(0, 2), 9);
        Due.due("only thought", x.ofPlace(0, 0), 5);
        x.land(1, 1, 1);
        Due.due("what is MISSING hides nothing", x.tower(0, 2), 0);
        Due.due("to one that is MISSING", x.tower(0, 1), Due.NONE);
        Due.due("from one that is MISSING", x.tower(1, 0), 0);
        BottledViews high = Due.landOf(0, 20, 0);
        // (20 - e) * 2 < 0 - e from e 41 on.
        Due.due("41 is too high", high.tower(0, 2), Due.NONE);
        high.land(0, 0, 1);
        Due.due("40 is not", high.tower(0, 2), 40);
        Due.due("one and the same", x.tower(3, 3), Due.BEYOND);
        Due.due("from -1", x.tower(-1, 3), Due.BEYOND);
        Due.due("to 20", x.tower(3, 20), Due.BEYOND);
        Due.due("from 20", x.tower(20, 3), Due.BEYOND);
        Due.due("to -1", x.tower(3, -1), Due.BEYOND);
    }

    private static void mutual() {
        BottledViews x = new BottledViews();
        Due.due("no VILLAGES", x.mutual(), 0);
        x.village(3);
        x.village(4);
        x.village(6);
        Due.due("one pair", x.mutual(), 1);
        x.village(4);
        Due.due("two AT one PLACE don't see each other", x.mutual(), 2);
        x.land(6, 0, 6);
        Due.due("all see the hill, and it sees all", x.mutual(), 5);
        x.land(6, 0, 5);
        x.land(3, 1, 1);
        Due.due("one that is MISSING sees, but is not seen", x.mutual(), 0);
        x.land(3, 1, 0);
        x.land(5, 1, 1);
        Due.due("over one that is MISSING", x.mutual(), 4);
    }

    private static void unseen() {
        BottledViews x = new BottledViews();
        Due.due("no VILLAGES", x.unseen(), ALL);
        x.village(5);
        Due.due("all but three", x.unseen(), ALL & ~Due.set(4, 5, 6));
        x.land(6, 1, 1);
        Due.due("what is MISSING is not seen", x.unseen(), ALL & ~Due.set(4, 5, 7));
        x.land(5, 1, 1);
        Due.due("a VILLAGE is there", x.unseen(), ALL & ~Due.set(4, 5, 7));
        x.village(0);
        Due.due("two VILLAGES", x.unseen(), ALL & ~Due.set(0, 1, 4, 5, 7));
    }

    /** BOTTLES 0 .. 4 with these LEFT in them; all that grew back is there again. */
    private static BottledViews cellar(int... sets) {
        BottledViews x = Due.bowl(10);
        x.village(10);
        for (int set : sets) {
            for (int i = 0; i < 20; i++) {
                x.land(i, 1, 0);
            }
            x.fill(0, 0, set > 1023 ? 1 : 0, set);
        }
        return x;
    }

    private static void cover() {
        BottledViews x = cellar(Due.set(1, 2), Due.set(3, 4), Due.set(1, 2, 3), Due.set(4, 5), Due.set(12));
        Due.due("of none", x.cover(0), 0);
        Due.due("the least of several", x.cover(Due.set(1, 2)), 1);
        Due.due("by one", x.cover(Due.set(1, 2, 3)), Due.set(2));
        Due.due("by two, the least set", x.cover(Due.set(1, 2, 3, 4)), Due.set(0, 1));
        Due.due("by two, the only set", x.cover(Due.set(1, 3, 5)), Due.set(2, 3));
        Due.due("by three", x.cover(Due.set(1, 3, 5, 12)), Due.set(2, 3, 4));
        Due.due("by none", x.cover(Due.set(1, 6)), Due.NONE);
        Due.due("PLACE 0 by none", x.cover(Due.set(0)), Due.NONE);
        Due.due("all", x.cover(ALL), Due.NONE);
        x.open(2);
        Due.due("an OPEN one has nothing LEFT", x.cover(Due.set(1, 3, 5)), Due.set(0, 1, 3));
        x.become(4, 27);
        Due.due("a tower that isn't covers, too", x.cover(Due.set(7)), Due.set(4));
        Due.due("-1", x.cover(-1), Due.BEYOND);
        Due.due("2^20", x.cover(ALL + 1), Due.BEYOND);
        BottledViews eight = cellar(1, 2, 4, 8, 16, 32, 64, 128);
        Due.due("all eight", eight.cover(255), 255);
    }

    private static void keeps() {
        BottledViews x = cellar(Due.set(1, 2), Due.set(3, 4), Due.set(1, 2, 3), Due.set(4, 5), Due.set(12));
        Due.text(x, 1, "k*10+l");
        // They cost 29, 27, 39, 26, 12.
        Due.due("the set", x.keeps(0), Due.set(2, 3, 4));
        Due.due("what they COST", x.keeps(1), 77);
        Due.text(x, 1, "10");
        Due.due("of several the least", x.keeps(0), Due.set(0, 1, 4));
        Due.due("10 each", x.keeps(1), 30);
        Due.text(x, 1, "0");
        Due.due("if all are free, none", x.keeps(0), 0);
        Due.due("0", x.keeps(1), 0);
        Due.text(x, 1, "1");
        x.become(0, 30);
        x.become(2, 30);
        x.days(20);
        Due.due("nothing LEFT, but AGE", x.keeps(0), Due.set(0, 1, 2, 4));
        Due.due("1 + 20 twice, 1 twice", x.keeps(1), 44);
        Due.due("what 2", x.keeps(2), Due.BEYOND);
        Due.due("what -1", x.keeps(-1), Due.BEYOND);
        Due.due("no BOTTLES", new BottledViews().keeps(0), 0);
    }

    private static void blend() {
        BottledViews x = cellar(Due.set(1, 2), Due.set(3, 6), Due.set(4, 0), Due.set(6, 7), Due.set(19));
        Due.due("edges that touch", x.blend(0, 1), Due.set(1, 2, 3, 6));
        Due.due("the other way round", x.blend(1, 0), Due.set(1, 2, 3, 6));
        Due.due("the lowest edge", x.blend(0, 2), Due.set(0, 1, 2, 4));
        Due.due("one is LEFT in both", x.blend(1, 3), Due.STATE);
        Due.due("they don't touch", x.blend(0, 3), Due.STATE);
        Due.due("nor with one PLACE between", x.blend(2, 3), Due.STATE);
        Due.due("nor the other way round", x.blend(3, 2), Due.STATE);
        Due.due("the ends of the row don't touch", x.blend(2, 4), Due.STATE);
        Due.due("one and the same", x.blend(1, 1), Due.BEYOND);
        Due.due("one 5", x.blend(5, 1), Due.BEYOND);
        Due.due("other 5", x.blend(1, 5), Due.BEYOND);
        Due.due("one -1", x.blend(-1, 1), Due.BEYOND);
        Due.due("other -1", x.blend(1, -1), Due.BEYOND);
        x.open(1);
        Due.due("nothing is LEFT in an OPEN one", x.blend(0, 1), Due.STATE);
    }

    private static void thief() {
        BottledViews x = new BottledViews();
        Due.due("one", x.thief(Due.set(5)), Due.set(4, 6));
        Due.due("two", x.thief(Due.set(5, 6)), 0);
        Due.due("the ends of the row", x.thief(Due.set(1)) | x.thief(Due.set(18)), Due.set(0, 2, 17, 19));
        x.land(5, 1, 1);
        Due.due("were it there", x.thief(Due.set(5)), Due.set(4, 6));
        Due.due("all else as it is", x.thief(Due.set(4)), Due.set(3, 5, 6));
        BottledViews bowl = Due.bowl(10);
        bowl.land(2, 1, 9);
        Due.due("one VIEW", bowl.thief(1023) & Due.set(10), Due.set(10));
        Due.due("of both sides none", bowl.thief(Due.set(9, 11)) & Due.set(10), 0);
        Due.due("those that are told are none", bowl.thief(Due.set(10)) & Due.set(10), 0);
        Due.due("it stays MISSING", bowl.ofPlace(2, 1), 9);
        Due.due("0", x.thief(0), Due.BEYOND);
        Due.due("-1", x.thief(-1), Due.BEYOND);
        Due.due("2^20", x.thief(ALL + 1), Due.BEYOND);
        Due.due("all", x.thief(ALL), 0);
    }

    private static void both() {
        BottledViews x = new BottledViews();
        Due.due("no VILLAGES", x.both(), 0);
        x.village(4);
        x.village(6);
        Due.due("between them", x.both(), Due.set(5));
        x.village(4);
        Due.due("from one side alone", x.both(), Due.set(5));
        x.land(5, 1, 2);
        Due.due("each sees the other one, but no third", x.both(), 0);
        x.village(5);
        x.village(8);
        Due.due("7 from 6 and from 8", x.both(), Due.set(7));
        x.land(7, 1, 2);
        Due.due("6 from the west and from the east", x.both(), Due.set(6));
    }
}
