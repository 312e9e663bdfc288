import java.util.ArrayList;
import java.util.List;
import java.util.function.Supplier;

/**
 * What the tests of edges share. Whether a refused call changed nothing is asked of two towns that were made alike:
 * one of them gets the call, and then both must answer all that can be asked alike.
 */
final class Edge {
    static final int ALL = 1048575;
    static final int LEAST = Integer.MIN_VALUE;
    static final int MOST = Integer.MAX_VALUE;

    interface Act {
        int on(BottledViews x);
    }

    interface Numbered {
        int on(BottledViews x, int v);
    }

    private Edge() {
    }

    // ---- towns; none takes more than 230 calls to make, so that a look stays within an object's 512

    static BottledViews young() {
        return new BottledViews();
    }

    /** There is room for more of everything: 3 VILLAGES, 4 BOTTLES, 3 bytes, 3 numbers that wait, SHEET 3 missing. */
    static BottledViews half() {
        BottledViews x = Due.bowl(10);
        x.village(10);
        x.village(4);
        x.village(15);
        Due.text(x, 0, "h+s");
        Due.text(x, 1, "k*9+a");
        x.days(30);
        x.fill(38, 0, 0, Due.set(2, 6, 9));
        x.fill(23, 0, 1, Due.set(12, 18));
        Due.feed(x, "s*2");
        x.tell(4);
        x.image();
        x.text(0);
        x.check();
        x.days(2);
        x.fill(14, 0, 1, Due.set(11, 14));
        x.fill(61, 0, 0, Due.set(7));
        x.open(1);
        x.land(0, 1, 99);
        x.land(1, 1, 3);
        x.seed(12345);
        x.voice(3, 3, 6);
        writeSheet(x, 0, 8, 20);
        writeSheet(x, 1, 16, 5);
        writeSheet(x, 2, 8, 3);
        Due.feed(x, "h+7");
        tellRightly(x, 3);
        meetErrors(x);
        return x;
    }

    /** There is no room: 5 VILLAGES, 8 BOTTLES, 50 bytes, 20 numbers that wait, SHEETS of 40 numbers; DAY 9999. */
    static BottledViews full() {
        BottledViews x = new BottledViews();
        lastDay(x);
        x.sheet(0, 8, 20);
        for (int i = 0; i < 20; i++) {
            x.put(0, i, Math.max(0, Math.abs(i - 10) - 1));
        }
        x.heights(0);
        for (int i = 0; i < 5; i++) {
            x.village(10 - i);
        }
        for (int i = 0; i < 7; i++) {
            x.fill(10 * i + i, 0, 1, Due.set(11 + i));
        }
        x.image();
        x.fill(2, 0, 0, Due.set(3, 4));
        x.open(7);
        Due.text(x, 1, "k+3");
        x.voice(6, 3, 5);
        writeSheet(x, 1, 8, 40);
        writeSheet(x, 2, 32, 40);
        for (int i = 0; i < 6; i++) {
            x.feed(0x2B312B312B312B31L, 8);
        }
        x.feed(0x3232L, 2);
        tellRightly(x, 20);
        meetErrors(x);
        return x;
    }

    static void lastDay(BottledViews x) {
        for (int i = 0; i < 99; i++) {
            x.days(100);
        }
        x.days(99);
    }

    private static void writeSheet(BottledViews x, int sheet, int bits, int n) {
        x.sheet(sheet, bits, n);
        for (int i = 0; i < n && i < 8; i++) {
            x.put(sheet, i, 1 + (7 * i + sheet) % 20);
        }
        x.put(sheet, n - 1, 19 - sheet);
    }

    private static void tellRightly(BottledViews x, int n) {
        int[] missing = new int[20];
        for (int i = 0; i < 20; i++) {
            missing[i] = x.ofPlace(i, 1);
        }
        for (int day = 1; day <= n; day++) {
            int gone = 0;
            for (int m : missing) {
                gone += m > day ? 1 : 0;
            }
            x.tell(gone);
        }
    }

    private static void meetErrors(BottledViews x) {
        x.at(9);
        x.trace(99);
        x.trace(-1);
        x.sheet(0, 8, -1);
        x.as(0, 6);
        x.as(0, 6);
    }

    // ---- all that can be asked

    /** All but what told() tells, the IMAGE, and how often one was made. It uses the town up. */
    static List<Integer> lookHere(BottledViews x) {
        List<Integer> seen = new ArrayList<>();
        lookAtTown(x, seen);
        int bodies = x.count(8);
        for (int i = 0; i < bodies; i++) {
            seen.add(x.trace(i));
        }
        for (int sheet = 0; sheet < 4; sheet++) {
            seen.add(x.judge(sheet));
            lookAtHeights(x, sheet, seen);
            seen.add(x.move(sheet, 20, sheet, 0, 20));
            lookAtHeights(x, sheet, seen);
        }
        return seen;
    }

    private static void lookAtHeights(BottledViews x, int sheet, List<Integer> seen) {
        int taken = x.heights(sheet);
        seen.add(taken);
        for (int i = 0; i < taken; i++) {
            seen.add(x.ofPlace(i, 0));
        }
    }

    /** What the IMAGE has, and how often one was made. It uses the town up. */
    static List<Integer> lookBack(BottledViews x) {
        List<Integer> seen = new ArrayList<>();
        seen.add(x.restore());
        lookAtTown(x, seen);
        seen.add(x.image());
        return seen;
    }

    /** What an IMAGE keeps; THE TAPE and what waits are used up. */
    private static void lookAtTown(BottledViews x, List<Integer> seen) {
        for (int what = 0; what < 10; what++) {
            seen.add(what == 8 ? 0 : x.count(what));
        }
        for (int i = 0; i < 20; i++) {
            seen.add(x.ofPlace(i, 0));
            seen.add(x.ofPlace(i, 1));
        }
        for (int i = 0; i < 5; i++) {
            seen.add(x.at(i));
        }
        int bottles = x.count(1);
        for (int i = 0; i < bottles; i++) {
            for (int what = 0; what < 6; what++) {
                seen.add(x.ofBottle(i, what));
            }
        }
        seen.add(x.law(0, 4, 17, 29));
        seen.add(x.law(1, 31, 5, 7));
        seen.add(x.check());
        seen.add(x.text(0));
        seen.add(x.law(0, 4, 17, 29));
    }

    // ---- what is asked of a call

    /** The call answers the error, which is counted, and changes nothing else. */
    static void refused(String what, Supplier<BottledViews> town, int error, Act act) {
        BottledViews x = town.get();
        BottledViews twin = town.get();
        Due.due(what, act.on(x), error);
        for (int k = 1; k <= 5; k++) {
            int more = Due.LOW - k == error ? 1 : 0;
            Due.due(what + ": told(" + k + ")", x.told(k), twin.told(k) + more);
        }
        alike(what + ": all stays", lookHere(x), lookHere(twin));
        x = town.get();
        act.on(x);
        alike(what + ": the IMAGE stays", lookBack(x), lookBack(town.get()));
    }

    /** The call answers no error, and changes nothing. */
    static void onlyThought(String what, Supplier<BottledViews> town, Act act) {
        BottledViews x = town.get();
        BottledViews twin = town.get();
        Due.holds(what + " is answered", act.on(x) > Due.LOW);
        for (int k = 1; k <= 5; k++) {
            Due.due(what + ": told(" + k + ")", x.told(k), twin.told(k));
        }
        alike(what + ": all stays", lookHere(x), lookHere(twin));
        x = town.get();
        act.on(x);
        alike(what + ": the IMAGE stays", lookBack(x), lookBack(town.get()));
    }

    /** The least and the most are not BEYOND; what is below and above is, and changes nothing. */
    static void limits(String what, Supplier<BottledViews> town, int least, int most, Numbered act) {
        limits(what, town, Due.BEYOND, least, most, act);
    }

    static void limits(String what, Supplier<BottledViews> town, int error, int least, int most, Numbered act) {
        for (int v : new int[] {least, most}) {
            BottledViews x = town.get();
            int before = x.told(Due.LOW - error);
            act.on(x, v);
            Due.due(what + ": " + v + " is taken", x.told(Due.LOW - error), before);
        }
        int[] outside = {LEAST, LEAST + 1, -1000000000, -100, least - 1, most + 1, most + 32, most + 256, most + 65536,
            MOST - 1, MOST};
        for (int v : outside) {
            if (v < least || v > most) {
                refused(what + ": " + v + " is not", town, error, x -> act.on(x, v));
            }
        }
    }

    private static void alike(String what, List<Integer> one, List<Integer> other) {
        Due.due(what + " (how much is seen)", one.size(), other.size());
        for (int i = 0; i < one.size() && i < other.size(); i++) {
            Due.due(what + " (" + i + ")", one.get(i), other.get(i));
        }
    }
}
