/** What the tests of the promises share: a count of wrong answers, the errors, and texts as bytes. */
final class Due {
    static final int LOW = -1000000000;
    static final int BEYOND = LOW - 1;
    static final int NONE = LOW - 2;
    static final int STATE = LOW - 3;
    static final int FULL = LOW - 4;
    static final int KIND = LOW - 5;

    private static int wrong = 0;
    private static int asked = 0;

    private Due() {
    }

    static void due(String call, long got, long want) {
        asked++;
        if (got != want) {
            wrong++;
            System.out.println(call + " answered " + got + ", due is " + want);
        }
    }

    static void holds(String what, boolean so) {
        due(what, so ? 1 : 0, 1);
    }

    static void end() {
        System.out.println(asked + " answers asked, " + wrong + " not as due");
        if (wrong != 0 || asked == 0) {
            System.exit(1);
        }
    }

    /** A set of bits. */
    static int set(int... members) {
        int set = 0;
        for (int member : members) {
            set |= 1 << member;
        }
        return set;
    }

    static void feed(BottledViews x, String signs) {
        for (int i = 0; i < signs.length(); i++) {
            x.feed(signs.charAt(i), 1);
        }
    }

    static int text(BottledViews x, int use, String signs) {
        feed(x, signs);
        return x.text(use);
    }

    /** A land whose heights are told, the rest of it being 0. */
    static BottledViews landOf(int... heights) {
        BottledViews x = new BottledViews();
        for (int i = 0; i < 20; i++) {
            x.land(i, 0, i < heights.length ? heights[i] : 0);
        }
        return x;
    }

    /** A valley whose lowest PLACE sees all others: n steps away it is n - 1 high, and (n - 1) / n grows with n. */
    static BottledViews bowl(int middle) {
        BottledViews x = new BottledViews();
        for (int i = 0; i < 20; i++) {
            x.land(i, 0, Math.max(0, Math.abs(i - middle) - 1));
        }
        return x;
    }
}
