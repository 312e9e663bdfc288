/** The edges of Terms 2 and of promises 12 to 14: THE TAPE, NUMBERS, what is open, FAULTS, ints that wrap, USES. */
public final class TextEdgesTest {
    private static final int LEAST = Edge.LEAST;
    private static final int MOST = Edge.MOST;

    public static void main(String[] args) {
        lowestBytesFirst();
        tapeOfFifty();
        tapeBehindATextAndAFault();
        everyByteAlone();
        everyByteBehindAnOperand();
        everyByteBehindAJoint();
        everyByteInBrackets();
        numbersOfOneToFourDigits();
        comparedOnceAtMost();
        fiveOpenAtOnce();
        closedOnesDoNotCount();
        faultIsTheFirst();
        endsTooEarly();
        intsThatWrap();
        quotientsAreCut();
        byNothing();
        comparedAsInts();
        trueIsWhatIsNotNothing();
        whatBindsCloser();
        fromLeftToRight();
        heldWithin();
        withoutAText();
        namesInOrder();
        usesAreApart();
        Due.end();
    }

    private static int fault(int use, String signs) {
        return Due.text(new BottledViews(), use, signs);
    }

    /** Promise 12: the n lowest bytes, the lowest first. */
    private static void lowestBytesFirst() {
        String signs = "1+2+4+8!";
        long word = 0;
        for (int i = 7; i >= 0; i--) {
            word = word << 8 | signs.charAt(i);
        }
        int[] worth = {0, 1, 1, 3, 1, 7, 1, 15, 1};
        for (int n = 1; n <= 8; n++) {
            BottledViews x = new BottledViews();
            Due.due("how many there are", x.feed(word, n), n);
            boolean whole = n % 2 == 1;
            Due.due("the lowest " + n, x.text(0), whole ? 1 : n == 8 ? -17 : -10 - n);
            Due.due("its worth", x.law(0, 0, 0, 0), whole ? worth[n] : 3);
        }
        BottledViews x = new BottledViews();
        Due.due("what stands above doesn't matter", x.feed(0x8000000000000037L, 1), 1);
        Due.due("nor below 0", x.feed(-256L + '*', 1), 2);
        Due.due("the eighth byte", x.feed(0x3530302B30303031L, 8), 10);
        Due.due("7*1000+005", x.text(0), 1);
        Due.due("is above 99", x.law(0, 0, 0, 0), 99);
        x.feed(0x3530302B30302A30L, 8);
        Due.due("0*00+005", x.text(0), 1);
        Due.due("5", x.law(0, 0, 0, 0), 5);
    }

    /** THE TAPE: at most 50. */
    private static void tapeOfFifty() {
        BottledViews x = new BottledViews();
        for (int i = 1; i <= 50; i++) {
            Due.due("byte " + i, x.feed(i % 2 == 1 ? '1' : i == 50 ? '0' : '+', 1), i);
        }
        Due.due("a 51st", x.feed('1', 1), Due.FULL);
        Due.due("50", x.count(6), 50);
        Due.due("all 50 are the TEXT", x.text(0), 1);
        Due.due("24 times 1, and 10", x.law(0, 0, 0, 0), 34);
        Due.due("room again", x.feed('7', 1), 1);
        Due.due("the TEXT stays", x.law(0, 0, 0, 0), 34);
        x = new BottledViews();
        for (int i = 1; i <= 6; i++) {
            x.feed(0x2B312B312B312B31L, 8);
        }
        Due.due("49", x.feed('1', 1), 49);
        Due.due("two more are too many", x.feed(0x312BL, 2), Due.FULL);
        Due.due("one more is not", x.feed('9', 1), 50);
        Due.due("a TEXT of 50", x.text(1), 1);
        Due.due("24 times 1, and 19", x.law(1, 0, 0, 0), 43);
    }

    /** Promise 13: which is empty then; BEYOND (THE TAPE stays); behind a FAULT the one ahead stays. */
    private static void tapeBehindATextAndAFault() {
        BottledViews x = new BottledViews();
        Due.feed(x, "2+3");
        Due.due("BEYOND", x.text(2), Due.BEYOND);
        Due.due("BEYOND below", x.text(-1), Due.BEYOND);
        Due.due("it stays", x.count(6), 3);
        Due.due("it is a TEXT still", x.text(0), 1);
        Due.due("5", x.law(0, 0, 0, 0), 5);
        Due.due("it is empty", x.count(6), 0);
        Due.due("an empty one is no TEXT", x.text(0), -10);
        Due.due("nor the other USE's", x.text(1), -10);
        Due.due("the one ahead stays", x.law(0, 0, 0, 0), 5);
        Due.due("the other has none still", x.law(1, 3, 1, 0), 7);
        for (String wrong : new String[] {"+", "9+", "9)", "99999", "k", "(9"}) {
            Due.holds("FAULT of " + wrong, Due.text(x, 0, wrong) <= -10);
            Due.due("it is empty behind " + wrong, x.count(6), 0);
            Due.due("the one ahead stays behind " + wrong, x.law(0, 0, 0, 0), 5);
        }
        Due.due("no ERROR but two", x.told(1) + x.told(2) + x.told(3) + x.told(4) + x.told(5), 2);
        Due.due("a shorter one in its place", Due.text(x, 0, "8"), 1);
        Due.due("8", x.law(0, 0, 0, 0), 8);
        Due.due("a longer one in its place", Due.text(x, 0, "1+1+1+1+1+1"), 1);
        Due.due("6", x.law(0, 0, 0, 0), 6);
    }

    private static boolean isDigit(int c) {
        return c >= '0' && c <= '9';
    }

    private static boolean isName(int use, int c) {
        return (use == 0 ? "hsd" : "kla").indexOf(c) >= 0;
    }

    private static boolean isJoint(int c) {
        return "|&<=>+-*/%".indexOf(c) >= 0;
    }

    private static boolean opens(int c) {
        return c == '!' || c == '(';
    }

    private static void everyByte(String ahead, boolean[] fits, boolean[] whole, int use) {
        for (int c = 0; c < 256; c++) {
            int at = ahead.length();
            int due = whole[c] ? 1 : fits[c] ? -10 - (at + 1) : -10 - at;
            Due.due("USE " + use + ", \"" + ahead + "\" and byte " + c, fault(use, ahead + (char) c), due);
        }
    }

    /** A TEXT begins with a digit, a NAME of its USE, ! or (; no blanks. */
    private static void everyByteAlone() {
        for (int use = 0; use < 2; use++) {
            boolean[] fits = new boolean[256];
            boolean[] whole = new boolean[256];
            for (int c = 0; c < 256; c++) {
                whole[c] = isDigit(c) || isName(use, c);
                fits[c] = opens(c);
            }
            for (String ahead : new String[] {"", "!", "!!!!"}) {
                everyByte(ahead, fits, whole, use);
            }
            for (int c = 0; c < 256; c++) {
                fits[c] |= whole[c];
                whole[c] = false;
            }
            everyByte("(", fits, whole, use);
            everyByte("((", fits, whole, use);
        }
    }

    private static void everyByteBehindAnOperand() {
        for (int use = 0; use < 2; use++) {
            boolean[] fits = new boolean[256];
            boolean[] whole = new boolean[256];
            for (int c = 0; c < 256; c++) {
                fits[c] = isJoint(c);
            }
            String name = use == 0 ? "h" : "k";
            for (String ahead : new String[] {name, "!" + name, "(1)", "1234", "7+0000", "(" + name + ")"}) {
                everyByte(ahead, fits, whole, use);
            }
            for (int c = 0; c < 256; c++) {
                whole[c] = isDigit(c);
            }
            for (String ahead : new String[] {"1", "12", "123", "!1", name + "*5"}) {
                everyByte(ahead, fits, whole, use);
            }
        }
    }

    private static void everyByteBehindAJoint() {
        for (int use = 0; use < 2; use++) {
            boolean[] fits = new boolean[256];
            boolean[] whole = new boolean[256];
            for (int c = 0; c < 256; c++) {
                whole[c] = isDigit(c) || isName(use, c);
                fits[c] = opens(c);
            }
            for (char joint : "|&<=>+-*/%".toCharArray()) {
                everyByte("1" + joint, fits, whole, use);
            }
        }
    }

    private static void everyByteInBrackets() {
        for (int use = 0; use < 2; use++) {
            boolean[] fits = new boolean[256];
            boolean[] whole = new boolean[256];
            for (int c = 0; c < 256; c++) {
                fits[c] = isJoint(c);
                whole[c] = c == ')';
            }
            everyByte("(1234", fits, whole, use);
            everyByte("1+(2*(3)", fits, whole, use);
            everyByte("!(!1234", fits, whole, use);
            whole[')'] = false;
            fits[')'] = true;
            everyByte("((1234", fits, whole, use);
        }
    }

    /** A NUMBER of 1 to 4 digits. */
    private static void numbersOfOneToFourDigits() {
        String[] taken = {"0", "9", "00", "10", "000", "999", "0000", "0001", "9999"};
        for (String t : taken) {
            Due.due("NUMBER " + t, fault(0, t), 1);
            Due.due("NUMBER " + t + " joined", fault(0, t + "+" + t), 1);
        }
        Due.due("5 digits", fault(0, "12345"), -14);
        Due.due("5 digits, all 0", fault(0, "00000"), -14);
        Due.due("6 digits", fault(0, "123456"), -14);
        Due.due("5 digits behind a joint", fault(0, "1+12345"), -16);
        Due.due("5 digits in brackets", fault(0, "(12345)"), -15);
        BottledViews x = new BottledViews();
        Due.text(x, 1, "9999-9000");
        Due.due("9999", x.law(1, 0, 0, 0), 999);
        Due.text(x, 1, "0012+0003");
        Due.due("digits are by ten, though 0 stands ahead", x.law(1, 0, 0, 0), 15);
        for (int digit = 0; digit < 10; digit++) {
            Due.text(x, 1, Integer.toString(digit));
            Due.due("digit " + digit, x.law(1, 0, 0, 0), digit);
        }
    }

    /** B: S, or S < S, S = S, S > S: no third S. */
    private static void comparedOnceAtMost() {
        for (char one : "<=>".toCharArray()) {
            Due.due("one " + one, fault(0, "1" + one + "2"), 1);
            for (char other : "<=>".toCharArray()) {
                Due.due(one + " and " + other, fault(0, "1" + one + "2" + other + "3"), -13);
                Due.due(one + " and " + other + " at once", fault(0, "1" + one + other + "3"), -12);
                Due.due("sums of " + one + " and " + other, fault(0, "1+1" + one + "2*2" + other + "3"), -17);
                Due.due("in brackets " + one + other, fault(0, "(1" + one + "2)" + other + "3"), 1);
                Due.due("in other brackets " + one + other, fault(0, "1" + one + "(2" + other + "3)"), 1);
                Due.due("behind & " + one + other, fault(0, "1" + one + "2&2" + other + "3"), 1);
                Due.due("behind | " + one + other, fault(0, "1" + one + "2|2" + other + "3"), 1);
                Due.due("within brackets " + one + other, fault(0, "(1" + one + "2" + other + "3)"), -14);
            }
        }
    }

    private static String closing(String opened) {
        return opened.replace("!", "").replace("(", ")");
    }

    /** At most 5 of ! and ( are open at once: every mixture of five is taken, a sixth of either sort isn't. */
    private static void fiveOpenAtOnce() {
        for (int mixture = 0; mixture < 32; mixture++) {
            StringBuilder row = new StringBuilder();
            for (int i = 0; i < 5; i++) {
                row.append((mixture >> i & 1) == 0 ? '!' : '(');
            }
            String five = row.toString();
            Due.due("five: " + five, fault(0, five + "1" + closing(five)), 1);
            Due.due("a sixth ! behind " + five, fault(0, five + "!1" + closing(five)), -15);
            Due.due("a sixth ( behind " + five, fault(0, five + "(1)" + closing(five)), -15);
            Due.due("five, ended early: " + five, fault(0, five), -15);
            Due.due("five behind a joint: " + five, fault(1, "1+" + five + "1" + closing(five)), 1);
            Due.due("a sixth behind a joint: " + five, fault(1, "1+" + five + "!1" + closing(five)), -17);
        }
    }

    /** A ! is open until its Q is there, a ( until its ) is. */
    private static void closedOnesDoNotCount() {
        Due.due("! five times over", fault(0, "!!!!!1+!!!!!1*!!!!!1"), 1);
        Due.due("( five times over", fault(0, "(((((1)))))+(((((1)))))"), 1);
        Due.due("a ( is open, and five ! in it", fault(0, "(!!!!!1)"), -15);
        Due.due("a ( is open, and four ! in it, twice", fault(0, "(!!!!1+!!!!1)"), 1);
        Due.due("a ( is open, and five ! at the second", fault(0, "(!!!!1+!!!!!1)"), -21);
        Due.due("four ( are open, one ! each", fault(0, "((((!1+!1<!1&!1|!1))))"), 1);
        Due.due("five ( are open, a !", fault(0, "(((((1+!1)))))"), -17);
        Due.due("five ( were open, one is closed, a !", fault(0, "(((((1)+!1))))"), 1);
        Due.due("five ( were open, one is closed, two !", fault(0, "(((((1)+!!1))))"), -19);
        Due.due("a ! ahead of a ( is open in it", fault(0, "!(!(!1))"), 1);
        Due.due("and its ( as well", fault(0, "!(!(!(1)))"), -15);
        Due.due("a ! is closed behind its bracket", fault(0, "!(1)+!!!!!1"), 1);
        Due.due("all are closed at the end", fault(0, "!(!(!1))+!!!!!!1"), -24);
    }

    /** FAULT: the place of the first byte with which no TEXT goes on. */
    private static void faultIsTheFirst() {
        Object[][] want = {{"+", 0}, {"++", 0}, {"x+x", 0}, {"1x2x", 1}, {"1++2++", 2}, {"()", 1}, {"(1+)", 3}, {"1+)", 2},
            {"(1))(", 3}, {"1(", 1}, {"1!", 1}, {"1h", 1}, {"h1", 1}, {"hs", 1}, {"(h)(s)", 3}, {"!)", 1}, {"!+", 1},
            {"1+-1", 2}, {"0-1", -1}, {"-1", 0}, {"1 ", 1}, {" 1", 0}, {"1+ 1", 2}, {"1|&1", 2}, {"12345)", 4},
            {"((((((", 5}, {"!!!!!!", 5}, {"1<2<", 3}, {"H", 0}, {"1\t", 1}, {"1\n", 1}, {"", 0}};
        for (Object[] w : want) {
            int at = (Integer) w[1];
            Due.due("FAULT of \"" + w[0] + "\"", fault(0, (String) w[0]), at < 0 ? 1 : -10 - at);
        }
        String fine = "1+".repeat(24);
        Due.due("at the last place of 50", fault(0, fine + "1)"), -59);
        Due.due("at the last place but one", fault(0, fine + ")1"), -58);
        Due.due("at the first place of 50", fault(0, ")" + fine + "1"), -10);
    }

    /** How many there are, if it ends too early. */
    private static void endsTooEarly() {
        Due.due("none", fault(0, ""), -10);
        Due.due("none, the other USE", fault(1, ""), -10);
        for (char joint : "|&<=>+-*/%".toCharArray()) {
            Due.due("behind " + joint, fault(0, "h" + joint), -12);
        }
        Due.due("behind !", fault(0, "!"), -11);
        Due.due("behind (", fault(0, "("), -11);
        Due.due("without its )", fault(0, "(1"), -12);
        Due.due("without its ) behind a NUMBER of 4", fault(0, "(1234"), -15);
        Due.due("without one of two )", fault(0, "((1)"), -14);
        Due.due("50 that end too early", fault(0, "1+".repeat(25)), -60);
        Due.due("50 without a )", fault(0, "(" + "1+".repeat(24) + "1"), -60);
    }

    /** law gives 51, if the TEXT in brackets is what d is. */
    private static void equal(String signs, int h, int s, int d) {
        BottledViews x = new BottledViews();
        Due.due("text " + signs, Due.text(x, 0, "(" + signs + "=d)*50+1"), 1);
        Due.due(signs + " with " + h + ", " + s + " is " + d, x.law(0, h, s, d), 51);
        Due.due(signs + " with " + h + ", " + s + " is no other", x.law(0, h, s, d ^ 1), 1);
    }

    private static void intsThatWrap() {
        equal("h+s", MOST, 1, LEAST);
        equal("h+s", LEAST, -1, MOST);
        equal("h+s", LEAST, LEAST, 0);
        equal("h-s", LEAST, 1, MOST);
        equal("h-s", MOST, -1, LEAST);
        equal("0-h", LEAST, 0, LEAST);
        equal("h*s", MOST, 2, -2);
        equal("h*s", 65536, 65536, 0);
        equal("h*s", 65536, 32768, LEAST);
        equal("h*s", LEAST, -1, LEAST);
        equal("h*s", 46341, 46341, -2147479015);
        equal("h/s", LEAST, -1, LEAST);
        equal("h%s", LEAST, -1, 0);
        equal("9999*9999*9999", 0, 0, 9999 * 9999 * 9999);
        equal("h+s-s", MOST, 7, MOST);
    }

    /** / cut, % the rest that it leaves. */
    private static void quotientsAreCut() {
        int[] numbers = {-8, -7, -2, -1, 1, 2, 7, 8, LEAST, MOST};
        for (int a : numbers) {
            for (int b : numbers) {
                equal("h/s", a, b, (int) ((long) a / b));
                equal("h%s", a, b, (int) ((long) a % b));
            }
        }
        equal("h/s", 7, -2, -3);
        equal("h/s", -7, 2, -3);
        equal("h%s", 7, -2, 1);
        equal("h%s", -7, 2, -1);
        equal("h/s", 1, 2, 0);
        equal("h/s", -1, 2, 0);
    }

    /** Both by 0 are 0. */
    private static void byNothing() {
        for (int a : new int[] {LEAST, -7, -1, 0, 1, 7, MOST}) {
            equal("h/s", a, 0, 0);
            equal("h%s", a, 0, 0);
            equal("5+h/0", a, 0, 5);
            equal("5+h%0", a, 0, 5);
            equal("h/0/s", a, 3, 0);
        }
        equal("h%(s-s)", 9, 4, 0);
        equal("0/h", 0, 0, 0);
    }

    /** < = > are 1 or 0, and of ints, not of their differences, which may wrap. */
    private static void comparedAsInts() {
        int[] numbers = {LEAST, LEAST + 1, -1, 0, 1, MOST - 1, MOST};
        for (int a : numbers) {
            for (int b : numbers) {
                equal("(h<s)", a, b, a < b ? 1 : 0);
                equal("(h=s)", a, b, a == b ? 1 : 0);
                equal("(h>s)", a, b, a > b ? 1 : 0);
            }
        }
    }

    /** | & ! are 1 or 0, what is not 0 being true. */
    private static void trueIsWhatIsNotNothing() {
        int[] numbers = {LEAST, -1, 0, 1, 2, 4, MOST};
        for (int a : numbers) {
            equal("!h", a, 0, a == 0 ? 1 : 0);
            equal("!!h", a, 0, a == 0 ? 0 : 1);
            for (int b : numbers) {
                equal("(h|s)", a, b, a != 0 || b != 0 ? 1 : 0);
                equal("(h&s)", a, b, a != 0 && b != 0 ? 1 : 0);
            }
        }
    }

    private static void whatBindsCloser() {
        equal("1+2*3", 0, 0, 7);
        equal("2*3+1", 0, 0, 7);
        equal("9-8/4", 0, 0, 7);
        equal("9-8%3", 0, 0, 7);
        equal("(1<2+0)", 0, 0, 1);
        equal("(1+1<1)", 0, 0, 0);
        equal("(0=1&0)", 0, 0, 0);
        equal("(0&0=0)", 0, 0, 0);
        equal("(1|0&0)", 0, 0, 1);
        equal("(0&0|1)", 0, 0, 1);
        equal("(2>1|0)", 0, 0, 1);
        equal("!0+1", 0, 0, 2);
        equal("!0*5", 0, 0, 5);
        equal("(!1=0)", 0, 0, 1);
        equal("(!(1=0))", 0, 0, 1);
        equal("!(1+0-1)", 0, 0, 1);
    }

    private static void fromLeftToRight() {
        equal("9-3-2", 0, 0, 4);
        equal("9-3+2", 0, 0, 8);
        equal("8/4/2", 0, 0, 1);
        equal("8/4*2", 0, 0, 4);
        equal("9%5*3", 0, 0, 12);
        equal("9*5%7", 0, 0, 3);
        equal("17%10%4", 0, 0, 3);
        equal("9-(3-2)", 0, 0, 8);
        equal("8/(4/2)", 0, 0, 4);
    }

    /** 0 GROWS is held within 1 to 99, 1 COSTS within 0 to 999. */
    private static void heldWithin() {
        BottledViews x = new BottledViews();
        Due.text(x, 0, "h");
        Due.text(x, 1, "k");
        int[][] grows = {{LEAST, 1}, {-1, 1}, {0, 1}, {1, 1}, {2, 2}, {98, 98}, {99, 99}, {100, 99}, {MOST, 99}};
        for (int[] g : grows) {
            Due.due("GROWS of " + g[0], x.law(0, g[0], 0, 0), g[1]);
        }
        int[][] costs = {{LEAST, 0}, {-1, 0}, {0, 0}, {1, 1}, {998, 998}, {999, 999}, {1000, 999}, {MOST, 999}};
        for (int[] c : costs) {
            Due.due("COSTS of " + c[0], x.law(1, c[0], 0, 0), c[1]);
        }
    }

    /** Without a TEXT 3+h; without a TEXT k*2+l; ints that wrap; held, too. */
    private static void withoutAText() {
        BottledViews x = new BottledViews();
        int[][] grows = {{LEAST, 1}, {-3, 1}, {-2, 1}, {-1, 2}, {0, 3}, {20, 23}, {95, 98}, {96, 99}, {97, 99},
            {MOST - 3, 99}, {MOST - 2, 1}, {MOST, 1}};
        for (int[] g : grows) {
            Due.due("3+h of " + g[0], x.law(0, g[0], 77, -77), g[1]);
        }
        int[][] costs = {{0, 0, 0}, {0, -1, 0}, {0, 1, 1}, {1, 0, 2}, {1, -2, 0}, {499, 0, 998}, {499, 1, 999},
            {499, 2, 999}, {500, 0, 999}, {1 << 30, 0, 0}, {(1 << 30) - 1, 1, 999}, {(1 << 30) - 1, 2, 0}, {LEAST, 5, 5},
            {MOST, 7, 5}, {0, MOST, 999}, {0, LEAST, 0}};
        for (int[] c : costs) {
            Due.due("k*2+l of " + c[0] + ", " + c[1], x.law(1, c[0], c[1], 88), c[2]);
        }
    }

    /** Promise 14: with its NAMES in order as a, b, c. */
    private static void namesInOrder() {
        String[] names = {"hsd", "kla"};
        for (int use = 0; use < 2; use++) {
            for (int i = 0; i < 3; i++) {
                BottledViews x = new BottledViews();
                Due.text(x, use, names[use].substring(i, i + 1));
                Due.due("NAME " + i + " of USE " + use, x.law(use, 11, 22, 33), 11 * (i + 1));
            }
        }
    }

    /** A USE has its own NAMES and its own TEXT. */
    private static void usesAreApart() {
        for (char name : "kla".toCharArray()) {
            Due.due(name + " in GROWS", fault(0, "" + name), -10);
        }
        for (char name : "hsd".toCharArray()) {
            Due.due(name + " in COSTS", fault(1, "" + name), -10);
        }
        BottledViews x = new BottledViews();
        Due.text(x, 1, "77");
        Due.due("GROWS has none", x.law(0, 7, 0, 0), 10);
        Due.due("COSTS", x.law(1, 0, 0, 0), 77);
        Due.text(x, 0, "44");
        Due.due("GROWS", x.law(0, 7, 0, 0), 44);
        Due.due("COSTS stays", x.law(1, 0, 0, 0), 77);
    }
}
