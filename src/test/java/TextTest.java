/** Promises 12 to 14: the tape, texts, what they give. */
public final class TextTest {
    public static void main(String[] args) {
        feed();
        textIsTaken();
        faults();
        openSigns();
        worth();
        heldAndWithout();
        Due.end();
    }

    private static void feed() {
        BottledViews x = new BottledViews();
        Due.due("n 0", x.feed(1, 0), Due.BEYOND);
        Due.due("n 9", x.feed(1, 9), Due.BEYOND);
        Due.due("n -1", x.feed(1, -1), Due.BEYOND);
        // "1+2*3-4h": the byte above the n lowest doesn't come along.
        Due.due("the lowest first", x.feed(0x68342D332A322B31L, 7), 7);
        Due.due("it is 1+2*3-4", x.text(0), 1);
        Due.due("its worth", x.law(0, 0, 0, 0), 3);
        for (int i = 1; i <= 6; i++) {
            Due.due("eight at once", x.feed(-1L, 8), 8 * i);
        }
        Due.due("51 bytes", x.feed(0, 3), Due.FULL);
        Due.due("nothing came", x.count(6), 48);
        Due.due("BEYOND ahead of FULL", x.feed(0, 9), Due.BEYOND);
        Due.due("50 bytes", x.feed(0, 2), 50);
        Due.due("one more", x.feed(0, 1), Due.FULL);
    }

    private static void textIsTaken() {
        BottledViews x = new BottledViews();
        Due.feed(x, "7");
        Due.due("use 2", x.text(2), Due.BEYOND);
        Due.due("use -1", x.text(-1), Due.BEYOND);
        Due.due("THE TAPE stays", x.count(6), 1);
        Due.due("text(0)", x.text(0), 1);
        Due.due("THE TAPE is empty", x.count(6), 0);
        Due.due("the TEXT", x.law(0, 0, 0, 0), 7);
        Due.due("the other USE has none", x.law(1, 2, 2, 0), 6);
        Due.due("a FAULT", Due.text(x, 0, "8+"), -12);
        Due.due("THE TAPE is empty behind a FAULT", x.count(6), 0);
        Due.due("the one ahead stays", x.law(0, 0, 0, 0), 7);
        Due.due("an empty TAPE", x.text(0), -10);
        Due.due("the one ahead stays behind an empty one", x.law(0, 0, 0, 0), 7);
        Due.due("a FAULT at once", Due.text(x, 0, ")"), -10);
        Due.due("the one ahead stays behind that, too", x.law(0, 0, 0, 0), 7);
        Due.due("another one", Due.text(x, 0, "9"), 1);
        Due.due("in its place", x.law(0, 0, 0, 0), 9);
        Due.due("a FAULT is no ERROR", x.told(1) + x.told(2) + x.told(3) + x.told(4) + x.told(5), 2);
    }

    private static void faults() {
        Object[][] want = {{"", 0}, {"1", -1}, {"12345", 4}, {"1234", -1}, {"0001", -1}, {"h", -1}, {"k", 0}, {"hh", 1},
            {"h1", 1}, {"1h", 1}, {"1+", 2}, {"+1", 0}, {"-1", 0}, {"1++1", 2}, {"1+++", 2}, {"(+1+", 1}, {"1 +1", 1}, {"1<2", -1},
            {"1<2<3", 3}, {"1<2=3", 3}, {"(1<2)<3", -1}, {"1<2&2<3|1", -1}, {"1<", 2}, {"1&", 2}, {"1&&1", 2},
            {"1||1", 2}, {"1==1", 2}, {"!", 1}, {"!1", -1}, {"!!1", -1}, {"1!", 1}, {"()", 1}, {"(1", 2}, {"(1))", 3},
            {"1)", 1}, {")", 0}, {"(1)(", 3}, {"(1)1", 3}, {"2*", 2}, {"2**2", 2}, {"2%d/s", -1}, {"H", 0},
            {"1+x", 2}, {"!(1<2)=0", -1}, {"1\u00e9", 1}, {"1\0", 1}, {"12345+", 4}, {"(1+2", 4}, {"1.5", 1}};
        for (Object[] w : want) {
            int fault = (Integer) w[1];
            int due = fault < 0 ? 1 : -10 - fault;
            Due.due("text \"" + w[0] + "\"", Due.text(new BottledViews(), 0, (String) w[0]), due);
        }
        Due.due("NAMES of COSTS", Due.text(new BottledViews(), 1, "k+l+a"), 1);
        Due.due("h is none of them", Due.text(new BottledViews(), 1, "k+h"), -12);
        Due.due("50 bytes", Due.text(new BottledViews(), 0, "1+".repeat(25)), -60);
        Due.due("50 bytes, whole", Due.text(new BottledViews(), 0, "1+".repeat(24) + "11"), 1);
    }

    private static void openSigns() {
        Due.due("5 !", Due.text(new BottledViews(), 0, "!!!!!1"), 1);
        Due.due("6 !", Due.text(new BottledViews(), 0, "!!!!!!1"), -15);
        Due.due("5 (", Due.text(new BottledViews(), 0, "(((((1)))))"), 1);
        Due.due("6 (", Due.text(new BottledViews(), 0, "((((((1))))))"), -15);
        Due.due("both kinds", Due.text(new BottledViews(), 0, "!(!(!(1)))"), -15);
        Due.due("a ! is open while its Q is", Due.text(new BottledViews(), 0, "!(!(!1))"), 1);
        Due.due("closed ones don't count", Due.text(new BottledViews(), 0, "!!!!!1+!!!!!1+(((((1)))))"), 1);
        Due.due("all are closed", Due.text(new BottledViews(), 0, "((((!1+!1+(1)))))+!!!!!!1"), -33);
        Due.due("one ( is open still", Due.text(new BottledViews(), 0, "((((!1+!1+(1))))+!!!!!!1"), -31);
    }

    private static int worthOf(String signs, int h, int s, int d) {
        BottledViews x = new BottledViews();
        Due.due("text \"" + signs + "\"", Due.text(x, 0, signs), 1);
        return x.law(0, h, s, d);
    }

    private static void worth() {
        Object[][] want = {{"1+2*3", 7}, {"(1+2)*3", 9}, {"9-3-2", 4}, {"90/9/2", 5}, {"90/(9/2)", 22}, {"17%10%4", 3},
            {"7/2*2", 6}, {"7*2/3", 4}, {"50+1/0", 50}, {"50+1%0", 50}, {"50+(0-7)/2", 47}, {"50+(0-7)%4", 47},
            {"50+(1<2)", 51}, {"50+(2<2)", 50}, {"50+(2=2)", 51}, {"50+(3=2)", 50}, {"50+(3>2)", 51}, {"50+(2>2)", 50},
            {"50+(5&7)", 51}, {"50+(5&0)", 50}, {"50+(1&1)", 51}, {"50+(1&2)", 51}, {"50+(0&1)", 50}, {"5+(1|0&0)", 6}, {"5+(0&0|1)", 6}, {"50+(0|9)", 51}, {"50+(0|0)", 50}, {"50+(0-3|0)", 51}, {"50+!7", 50},
            {"50+!0", 51}, {"50+!!7", 51}, {"20*!0+3", 23}, {"1|0&0", 1}, {"5+(1+1<3)", 6}, {"5+(1|1<0)", 6},
            {"5+(2&1+1)", 6}, {"12", 12}, {"0012", 12}, {"9999-9989", 10}, {"5|0", 1}, {"7", 7}};
        for (Object[] w : want) {
            Due.due("worth of \"" + w[0] + "\"", worthOf((String) w[0], 0, 0, 0), (Integer) w[1]);
        }
        Due.due("NAMES in order", worthOf("h*9-s*3+d", 9, 8, 7), 64);
        Due.due("ints wrap", worthOf("h*2+50", Integer.MIN_VALUE, 0, 0), 50);
        Due.due("the least by -1", worthOf("h/s<0", Integer.MIN_VALUE, -1, 0), 1);
        Due.due("the rest of the least by -1", worthOf("h%s+40", Integer.MIN_VALUE, -1, 0), 40);
        Due.due("by a NAME that is 0", worthOf("d/h+d%h+30", 0, 0, 9), 30);
    }

    private static void heldAndWithout() {
        BottledViews x = new BottledViews();
        Due.due("use 2", x.law(2, 0, 0, 0), Due.BEYOND);
        Due.due("use -1", x.law(-1, 0, 0, 0), Due.BEYOND);
        Due.due("3+h", x.law(0, 20, 99, 99), 23);
        Due.due("3+h, held at 1", x.law(0, -50, 0, 0), 1);
        Due.due("3+h, held at 99", x.law(0, 97, 0, 0), 99);
        Due.due("3+h wraps", x.law(0, Integer.MAX_VALUE, 0, 0), 1);
        Due.due("k*2+l", x.law(1, 20, 19, 99), 59);
        Due.due("k*2+l, held at 0", x.law(1, -1, 1, 0), 0);
        Due.due("k*2+l, held at 999", x.law(1, 500, 0, 0), 999);
        Due.text(x, 0, "h");
        Due.due("0 is held at 1", x.law(0, 0, 0, 0), 1);
        Due.due("99", x.law(0, 99, 0, 0), 99);
        Due.due("100 is held at 99", x.law(0, 100, 0, 0), 99);
        Due.text(x, 1, "a");
        Due.due("a is the third", x.law(1, 5, 6, 7), 7);
        Due.due("0", x.law(1, 0, 0, 0), 0);
        Due.due("999", x.law(1, 0, 0, 999), 999);
        Due.due("1000", x.law(1, 0, 0, 1000), 999);
    }
}
