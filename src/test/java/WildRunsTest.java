import java.lang.reflect.Method;
import java.util.HashMap;
import java.util.Map;
import java.util.Random;

/** Long runs of drawn calls, each answered by the program and by the model; and wild numbers, which must never throw. */
public final class WildRunsTest {
    private static final int CALLS = 512;
    private static final String[] NAMES = {"land", "ofPlace", "village", "moves", "at", "fill", "ofBottle", "become", "as",
        "open", "feed", "text", "law", "days", "loose", "view", "again", "best", "tower", "mutual", "unseen", "cover",
        "keeps", "blend", "thief", "both", "seed", "voice", "trace", "sheet", "put", "move", "heights", "judge", "image",
        "restore", "tell", "check", "count", "told"};
    private static final Map<String, Method> METHODS = new HashMap<>();

    public static void main(String[] args) throws Exception {
        for (Method m : BottledViews.class.getMethods()) {
            METHODS.put(m.getName(), m);
        }
        Map<String, int[]> seen = new HashMap<>();
        for (int seed = 1; seed <= 600; seed++) {
            run(seed, seed % 10 == 0 ? 2 : 40, seen);
        }
        for (String name : NAMES) {
            Due.holds(name + " was answered", seen.containsKey(name) && seen.get(name)[0] > 0);
        }
        drawnTexts();
        Due.end();
    }

    /** One wrong number in so many; each run draws how often days pass, so that some stay young. */
    private static void run(int seed, int wildOneIn, Map<String, int[]> seen) throws Exception {
        Random r = new Random(seed);
        BottledViews x = new BottledViews();
        Model model = new Model();
        int quiet = r.nextInt(4);
        for (int i = 0; i < CALLS; i++) {
            String name = NAMES[r.nextInt(NAMES.length)];
            if (quiet > 0 && (name.equals("days") || name.equals("restore") || name.equals("open")) && r.nextInt(4) < quiet) {
                name = "fill";
            }
            if (name.equals("text") && r.nextInt(3) > 0) {
                feedDrawn(r, x, model, seed);
            }
            long[] a = arguments(r, name, x);
            for (int j = 0; j < a.length; j++) {
                if (r.nextInt(wildOneIn * a.length) == 0) {
                    a[j] = wild(r);
                }
            }
            int got = answer(x, name, a);
            int want = model.call(name, a);
            Due.due("run " + seed + " call " + i + " " + name + java.util.Arrays.toString(a), got, want);
            if (got > Due.LOW) {
                seen.computeIfAbsent(name, n -> new int[1])[0]++;
            }
        }
    }

    private static int answer(BottledViews x, String name, long[] a) throws Exception {
        Method m = METHODS.get(name);
        Object[] given = new Object[a.length];
        for (int i = 0; i < a.length; i++) {
            given[i] = m.getParameterTypes()[i] == long.class ? (Object) a[i] : (Object) (int) a[i];
        }
        return (Integer) m.invoke(x, given);
    }

    private static int wild(Random r) {
        int[] some = {-1, -2, 20, 21, 41, 100, 101, 1 << 20, (1 << 20) - 1, Integer.MAX_VALUE, Integer.MIN_VALUE};
        return r.nextBoolean() ? r.nextInt() : some[r.nextInt(some.length)];
    }

    private static void feedDrawn(Random r, BottledViews x, Model model, int seed) throws Exception {
        String signs = drawnText(r, 2, r.nextBoolean() ? "hsd" : "kla");
        for (int i = 0; i < signs.length() && i < 30; i++) {
            long[] a = {signs.charAt(i), 1};
            Due.due("run " + seed + " feed", answer(x, "feed", a), model.call("feed", a));
        }
    }

    private static String drawnText(Random r, int deep, String names) {
        String single;
        int kind = r.nextInt(deep > 0 ? 6 : 4);
        if (kind < 2) {
            single = "" + names.charAt(r.nextInt(3));
        } else if (kind < 4) {
            single = "" + r.nextInt(r.nextInt(8) == 0 ? 20000 : 30);
        } else if (kind == 4) {
            single = "!" + drawnText(r, 0, names).substring(0, 1);
        } else {
            single = "(" + drawnText(r, deep - 1, names) + ")";
        }
        return r.nextInt(5) < 2 ? single : single + "|&<=>+-*/%+-*".charAt(r.nextInt(13)) + drawnText(r, deep, names);
    }

    /** Some of the PLACES that VILLAGE v sees to a side, so that BOTTLES do come to be. */
    private static int someOf(Random r, BottledViews x, int village, int side) {
        int seen = x.count(0) > village ? x.view(village, side, 0) : 1;
        int some = seen & r.nextInt();
        return some != 0 ? some : seen;
    }

    private static long[] arguments(Random r, String name, BottledViews x) {
        int villages = Math.max(1, x.count(0));
        int bottles = Math.max(1, x.count(1));
        int village = r.nextInt(villages);
        int bottle = r.nextInt(bottles);
        int place = r.nextInt(20);
        int side = r.nextInt(2);
        int km = r.nextInt(70);
        int sheet = r.nextInt(4);
        switch (name) {
            case "land": {
                int what = r.nextInt(2);
                return new long[] {place, what, what == 0 ? r.nextInt(21) : r.nextInt(2) * r.nextInt(100)};
            }
            case "ofPlace": return new long[] {place, r.nextInt(6)};
            case "village": return new long[] {place};
            case "moves": return new long[] {village, place};
            case "at": return new long[] {village};
            // Each BOTTLE makes the call to count() and view(); neither ever answers an ERROR here.
            case "fill": return new long[] {km, village, side, someOf(r, x, village, side)};
            case "ofBottle": return new long[] {bottle, r.nextInt(9)};
            case "become": return new long[] {bottle, km};
            case "as": return new long[] {bottle, r.nextInt(7)};
            case "open": return new long[] {bottle};
            case "feed": return new long[] {"hsdkla(!)1+*<".charAt(r.nextInt(13)), 1};
            case "text": return new long[] {side};
            case "law": return new long[] {side, r.nextInt(60) - 20, r.nextInt(60) - 20, r.nextInt(60) - 20};
            case "days": return new long[] {r.nextInt(12) == 0 ? 100 : 1 + r.nextInt(6)};
            case "loose": return new long[] {1 + r.nextInt(r.nextInt(4) == 0 ? 40 : 4)};
            case "view": return new long[] {village, side, r.nextInt(r.nextBoolean() ? 101 : 12)};
            case "again": return new long[] {village, place};
            case "best": case "keeps": return new long[] {side};
            case "tower": return new long[] {place, r.nextInt(20)};
            case "cover": return new long[] {r.nextInt(1 << 20) & r.nextInt() & r.nextInt()};
            case "blend": return new long[] {bottle, r.nextInt(bottles)};
            case "thief": return new long[] {1 << place | (r.nextInt(3) == 0 ? 1 << r.nextInt(20) : 0)};
            case "seed": case "tell": return new long[] {r.nextInt(3) == 0 ? r.nextInt() : x.count(3)};
            case "voice": return new long[] {bottle, r.nextInt(4), r.nextInt(5) == 0 ? r.nextInt() : r.nextInt(20)};
            case "trace": return new long[] {r.nextInt(10)};
            case "sheet": return new long[] {sheet, 8 << r.nextInt(3), 15 + r.nextInt(26)};
            case "put": return new long[] {sheet, r.nextInt(25), r.nextInt(30)};
            case "move": return new long[] {sheet, r.nextInt(20), r.nextInt(4), r.nextInt(20), r.nextInt(15)};
            case "heights": case "judge": return new long[] {sheet};
            case "count": return new long[] {r.nextInt(10)};
            case "told": return new long[] {1 + r.nextInt(5)};
            default: return new long[0];
        }
    }

    /** FAULTS of rows of signs that are mostly none. */
    private static void drawnTexts() {
        Random r = new Random(99);
        String signs = "hsd1290()(!+-*/%<=>&|k";
        for (int i = 0; i < 6000; i++) {
            StringBuilder text = new StringBuilder(drawnText(r, 3, "hsd"));
            while (r.nextInt(3) > 0) {
                int at = r.nextInt(text.length());
                text.insert(at, signs.charAt(r.nextInt(signs.length())));
            }
            if (text.length() > 24) {
                text.setLength(24);
            }
            int fault = Model.faultOf(text.toString(), 0);
            int got = Due.text(new BottledViews(), 0, text.toString());
            Due.due("text \"" + text + "\"", got, fault < 0 ? 1 : -10 - fault);
        }
    }
}
