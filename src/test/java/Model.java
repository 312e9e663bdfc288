import java.util.ArrayList;
import java.util.HashMap;
import java.util.List;
import java.util.Map;
import java.util.TreeSet;

/**
 * The document once more, told in another way than the program: KINDS are Java classes that override one another,
 * sets are sets, other days are copies of the land, and TEXTS are found by trying every split.
 */
final class Model {
    static final class Refused extends RuntimeException {
        private static final long serialVersionUID = 1L;
        final int k;

        Refused(int k) {
            this.k = k;
        }
    }

    private static final int BEYOND = 1;
    private static final int NONE = 2;
    private static final int STATE = 3;
    private static final int FULL = 4;
    private static final int KIND = 5;

    private static final class Place implements Cloneable {
        int height = 5;
        int missing = 0;

        Place copy() {
            Place p = new Place();
            p.height = height;
            p.missing = missing;
            return p;
        }
    }

    private static class White {
        int n;
        int m;
        int from;
        int age;
        boolean open;
        TreeSet<Integer> holds = new TreeSet<>();
        List<Integer> trace = new ArrayList<>();

        int number() {
            return 0;
        }

        TreeSet<Integer> kindLeft() {
            return new TreeSet<>(holds);
        }

        final TreeSet<Integer> left() {
            return open ? new TreeSet<>() : kindLeft();
        }

        int cost(int v) {
            return v;
        }

        int pours(int x) {
            trace.add(10);
            return x + n;
        }

        int costs(int x) {
            trace.add(11);
            return pours(x) * 2;
        }

        int ages(int x) {
            trace.add(12);
            return x - m;
        }

        int tells(int x) {
            trace.add(13);
            return costs(x) ^ ages(x);
        }

        final White like(White other) {
            n = other.n;
            m = other.m;
            from = other.from;
            age = other.age;
            open = other.open;
            holds = new TreeSet<>(other.holds);
            return this;
        }
    }

    private static class Blue extends White {
        @Override
        int number() {
            return 1;
        }

        @Override
        TreeSet<Integer> kindLeft() {
            TreeSet<Integer> left = super.kindLeft();
            left.removeIf(p -> p > from - 3 && p < from + 3);
            return left;
        }

        @Override
        int cost(int v) {
            return super.cost(v) * 2;
        }

        @Override
        int pours(int x) {
            trace.add(20);
            return super.pours(x) * 3;
        }
    }

    private static class Cut extends White {
        @Override
        int number() {
            return 2;
        }

        @Override
        TreeSet<Integer> kindLeft() {
            TreeSet<Integer> left = super.kindLeft();
            left.add(m);
            return left;
        }

        @Override
        int cost(int v) {
            return super.cost(v) / 2;
        }

        @Override
        int costs(int x) {
            trace.add(30);
            return super.costs(x) - ages(1);
        }
    }

    private static class Old extends White {
        @Override
        int number() {
            return 3;
        }

        int fadedBy() {
            return age;
        }

        @Override
        TreeSet<Integer> kindLeft() {
            TreeSet<Integer> left = super.kindLeft();
            left.removeIf(p -> Math.abs(p - from) > 19 - fadedBy());
            return left;
        }

        @Override
        int cost(int v) {
            return super.cost(v) + age;
        }

        @Override
        int ages(int x) {
            trace.add(40);
            return -super.ages(x);
        }
    }

    private static final class Long extends Blue {
        @Override
        int number() {
            return 4;
        }

        @Override
        int cost(int v) {
            return super.cost(v) + 5 * m;
        }

        @Override
        int tells(int x) {
            trace.add(50);
            return super.tells(x) - pours(2);
        }
    }

    private static final class Forged extends Cut {
        @Override
        int number() {
            return 5;
        }

        @Override
        int cost(int v) {
            return 1;
        }

        @Override
        int costs(int x) {
            trace.add(60);
            return super.costs(x + 1);
        }
    }

    private static final class Vintage extends Old {
        @Override
        int number() {
            return 6;
        }

        @Override
        int fadedBy() {
            return age / 2;
        }

        @Override
        int cost(int v) {
            return super.cost(v) + age / (m + 1);
        }

        @Override
        int ages(int x) {
            trace.add(70);
            return super.ages(x) ^ n;
        }

        @Override
        int tells(int x) {
            trace.add(71);
            return costs(x) - super.tells(x);
        }
    }

    private static White ofKind(int kind) {
        switch (kind) {
            case 0: return new White();
            case 1: return new Blue();
            case 2: return new Cut();
            case 3: return new Old();
            case 4: return new Long();
            case 5: return new Forged();
            default: return new Vintage();
        }
    }

    private static final Class<?>[] KINDS =
        {White.class, Blue.class, Cut.class, Old.class, Long.class, Forged.class, Vintage.class};

    /** A TEXT by every split: what it is worth, or null if the signs are none. */
    private static final class Splits {
        private final String signs;
        private final String names;
        private final int[] values;
        private final Map<String, Integer> known = new HashMap<>();
        private final Map<String, Boolean> asked = new HashMap<>();

        Splits(String signs, int use, int... values) {
            this.signs = signs;
            this.names = use == 0 ? "hsd" : "kla";
            this.values = values;
        }

        static Integer worth(String signs, int use, int... values) {
            return new Splits(signs, use, values).level(0, 0, signs.length(), 0);
        }

        private static final String[] JOINTS = {"|", "&", "<=>", "+-", "*/%"};

        private Integer level(int level, int from, int to, int open) {
            String key = level + " " + from + " " + to + " " + open;
            if (asked.put(key, true) == null) {
                known.put(key, level == 5 ? single(from, to, open) : split(level, from, to, open));
            }
            return known.get(key);
        }

        private Integer split(int level, int from, int to, int open) {
            Integer whole = level(level + 1, from, to, open);
            if (whole != null) {
                return whole;
            }
            for (int i = from + 1; i + 1 < to; i++) {
                if (JOINTS[level].indexOf(signs.charAt(i)) < 0) {
                    continue;
                }
                Integer one = level(level == 2 ? 3 : level, from, i, open);
                Integer other = level(level + 1, i + 1, to, open);
                if (one != null && other != null) {
                    return joined(one, signs.charAt(i), other);
                }
            }
            return null;
        }

        private static int joined(int a, char joint, int b) {
            switch (joint) {
                case '|': return a != 0 || b != 0 ? 1 : 0;
                case '&': return a != 0 && b != 0 ? 1 : 0;
                case '<': return a < b ? 1 : 0;
                case '=': return a == b ? 1 : 0;
                case '>': return a > b ? 1 : 0;
                case '+': return a + b;
                case '-': return a - b;
                case '*': return a * b;
                case '/': return b == 0 ? 0 : a / b;
                default: return b == 0 ? 0 : a % b;
            }
        }

        private Integer single(int from, int to, int open) {
            String q = signs.substring(from, to);
            if (q.matches("[0-9]{1,4}")) {
                return Integer.parseInt(q);
            }
            if (q.length() == 1 && names.contains(q)) {
                return values[names.indexOf(q)];
            }
            if (q.startsWith("!") && open < 5) {
                Integer of = level(5, from + 1, to, open + 1);
                return of == null ? null : of == 0 ? 1 : 0;
            }
            if (q.startsWith("(") && q.endsWith(")") && open < 5) {
                return level(0, from + 1, to - 1, open + 1);
            }
            return null;
        }

        /** Whether some TEXT begins so: then one does that ends soon, with an operand, or not, and what closes it. */
        static boolean begins(String signs, int use) {
            String closing = "";
            for (int i = 0; i <= 5; i++) {
                if (worth(signs + closing, use, 0, 0, 0) != null || worth(signs + "1" + closing, use, 0, 0, 0) != null) {
                    return true;
                }
                closing += ")";
            }
            return false;
        }

        static int fault(String signs, int use) {
            if (!signs.isEmpty() && worth(signs, use, 0, 0, 0) != null) {
                return -1;
            }
            for (int i = 0; i < signs.length(); i++) {
                if (!begins(signs.substring(0, i + 1), use)) {
                    return i;
                }
            }
            return signs.length();
        }
    }

    private static final class All {
        Place[] places = new Place[20];
        List<Integer> villages = new ArrayList<>();
        List<White> bottles = new ArrayList<>();
        int day = 0;
        int z = 1;
        String tape = "";
        String[] texts = {null, null};
        List<Integer> waiting = new ArrayList<>();

        All copy() {
            All c = new All();
            c.places = copyOf(places);
            c.villages = new ArrayList<>(villages);
            for (White b : bottles) {
                c.bottles.add(ofKind(b.number()).like(b));
            }
            c.day = day;
            c.z = z;
            c.tape = tape;
            c.texts = texts.clone();
            c.waiting = new ArrayList<>(waiting);
            return c;
        }
    }

    private static Place[] copyOf(Place[] places) {
        Place[] copy = new Place[20];
        for (int i = 0; i < 20; i++) {
            copy[i] = places[i].copy();
        }
        return copy;
    }

    private All all = new All();
    private All image = null;
    private int images = 0;
    private List<Integer> trace = new ArrayList<>();
    private final int[] told = new int[6];
    private final long[][] sheets = new long[4][];
    private final int[] bits = new int[4];

    Model() {
        for (int i = 0; i < 20; i++) {
            all.places[i] = new Place();
        }
    }

    private static void ask(boolean fine, int k) {
        if (!fine) {
            throw new Refused(k);
        }
    }

    private static void within(int v, int least, int most) {
        ask(v >= least && v <= most, BEYOND);
    }

    private static int bitsOf(Iterable<Integer> set) {
        int b = 0;
        for (int i : set) {
            b += 1 << i;
        }
        return b;
    }

    private static TreeSet<Integer> setOf(int b) {
        TreeSet<Integer> set = new TreeSet<>();
        for (int i = 0; i < 20; i++) {
            if ((b & 1 << i) != 0) {
                set.add(i);
            }
        }
        return set;
    }

    private static boolean sees(Place[] land, int a, int b) {
        if (a == b || land[b].missing > 0) {
            return false;
        }
        for (int k = Math.min(a, b) + 1; k < Math.max(a, b); k++) {
            long one = (long) (land[k].height - land[a].height) * Math.abs(a - b);
            long other = (long) (land[b].height - land[a].height) * Math.abs(a - k);
            if (land[k].missing == 0 && one >= other) {
                return false;
            }
        }
        return true;
    }

    private static TreeSet<Integer> viewOf(Place[] land, int a, int side) {
        TreeSet<Integer> set = new TreeSet<>();
        for (int b = 0; b < 20; b++) {
            if ((side == 0 ? b < a : b > a) && sees(land, a, b)) {
                set.add(b);
            }
        }
        return set;
    }

    private Place[] behind(int n) {
        Place[] land = copyOf(all.places);
        for (int i = 0; i < n; i++) {
            for (Place p : land) {
                p.missing -= p.missing > 0 ? 1 : 0;
            }
        }
        return land;
    }

    private static int missing(Place[] land) {
        int n = 0;
        for (Place p : land) {
            n += p.missing > 0 ? 1 : 0;
        }
        return n;
    }

    private int lawOf(int use, int a, int b, int c) {
        String text = all.texts[use] != null ? all.texts[use] : use == 0 ? "3+h" : "k*2+l";
        int v = Splits.worth(text, use, a, b, c);
        int least = use == 0 ? 1 : 0;
        int most = use == 0 ? 99 : 999;
        return v < least ? least : v > most ? most : v;
    }

    private static int leagues(White b) {
        int most = 0;
        for (int p : b.left()) {
            most = Math.max(most, Math.abs(p - b.from));
        }
        return most;
    }

    private int cost(White b) {
        return b.cost(lawOf(1, b.left().size(), leagues(b), b.age));
    }

    private void village(long v) {
        ask(v >= 0 && v < all.villages.size(), BEYOND);
    }

    private White bottle(int b) {
        ask(b >= 0 && b < all.bottles.size(), BEYOND);
        return all.bottles.get(b);
    }

    private void aDay() {
        all.places = behind(1);
        for (White b : all.bottles) {
            if (!b.open && b.age < 99) {
                b.age++;
            }
        }
        all.day++;
    }

    private int draw() {
        all.z = all.z * 1103515245 + 12345;
        return all.z >>> 8;
    }

    int call(String name, long[] l) {
        int[] a = new int[7];
        for (int i = 0; i < l.length; i++) {
            a[i] = (int) l[i];
        }
        try {
            switch (name) {
                case "land": case "ofPlace": case "village": case "moves": case "at":
                    return landCall(name, a);
                case "fill": case "ofBottle": case "become": case "as": case "open":
                    return bottleCall(name, a);
                case "feed": case "text": case "law": case "days": case "loose":
                    return textOrDayCall(name, a, l);
                case "view": case "again": case "best": case "tower": case "mutual": case "unseen": case "thief":
                case "both":
                    return seeingCall(name, a);
                case "cover": case "keeps": case "blend":
                    return cellarCall(name, a);
                case "sheet": case "put": case "move": case "heights": case "judge":
                    return sheetCall(name, a);
                default:
                    return restCall(name, a);
            }
        } catch (Refused r) {
            told[r.k]++;
            return -1000000000 - r.k;
        }
    }

    private int landCall(String name, int[] a) {
        switch (name) {
            case "land": {
                within(a[0], 0, 19);
                within(a[1], 0, 1);
                within(a[2], 0, a[1] == 0 ? 20 : 99);
                Place p = all.places[a[0]];
                int was = a[1] == 0 ? p.height : p.missing;
                if (a[1] == 0) {
                    p.height = a[2];
                } else {
                    p.missing = a[2];
                }
                return was;
            }
            case "ofPlace": {
                within(a[0], 0, 19);
                within(a[1], 0, 5);
                TreeSet<Integer> west = viewOf(all.places, a[0], 0);
                TreeSet<Integer> east = viewOf(all.places, a[0], 1);
                TreeSet<Integer> here = new TreeSet<>();
                for (int v = 0; v < all.villages.size(); v++) {
                    if (all.villages.get(v) == a[0]) {
                        here.add(v);
                    }
                }
                return new int[] {all.places[a[0]].height, all.places[a[0]].missing, bitsOf(west), bitsOf(east),
                    west.size() + east.size(), bitsOf(here)}[a[1]];
            }
            case "village":
                within(a[0], 0, 19);
                ask(all.villages.size() < 5, FULL);
                all.villages.add(a[0]);
                return all.villages.size() - 1;
            case "moves":
                village(a[0]);
                within(a[1], 0, 19);
                return all.villages.set(a[0], a[1]);
            default:
                village(a[0]);
                return all.villages.get(a[0]);
        }
    }

    private int bottleCall(String name, int[] a) {
        switch (name) {
            case "fill": {
                within(a[0], 0, 69);
                village(a[1]);
                within(a[2], 0, 1);
                within(a[3], 1, (1 << 20) - 1);
                int from = all.villages.get(a[1]);
                ask(viewOf(all.places, from, a[2]).containsAll(setOf(a[3])), STATE);
                ask(all.bottles.size() < 8, FULL);
                White b = ofKind(a[0] / 10);
                b.n = all.bottles.size();
                b.m = a[0] % 10;
                b.from = from;
                b.holds = setOf(a[3]);
                for (int p : b.holds) {
                    all.places[p].missing = lawOf(0, all.places[p].height, Math.abs(p - from), all.day);
                }
                all.bottles.add(b);
                return b.n;
            }
            case "ofBottle": {
                White b = bottle(a[0]);
                within(a[1], 0, 8);
                return new int[] {b.number(), b.m, b.from, bitsOf(b.holds), b.age, b.open ? 1 : 0, bitsOf(b.left()),
                    leagues(b), cost(b)}[a[1]];
            }
            case "become": {
                White b = bottle(a[0]);
                within(a[1], 0, 69);
                White other = ofKind(a[1] / 10).like(b);
                other.m = a[1] % 10;
                all.bottles.set(a[0], other);
                return b.number();
            }
            case "as": {
                White b = bottle(a[0]);
                within(a[1], 0, 6);
                ask(KINDS[a[1]].isInstance(b), KIND);
                return b.m;
            }
            default: {
                White b = bottle(a[0]);
                ask(!b.open, STATE);
                int before = missing(all.places);
                for (int p : b.left()) {
                    all.places[p].missing = 0;
                }
                b.holds.clear();
                b.open = true;
                return before - missing(all.places);
            }
        }
    }

    private int textOrDayCall(String name, int[] a, long[] l) {
        switch (name) {
            case "feed": {
                within(a[1], 1, 8);
                ask(all.tape.length() + a[1] <= 50, FULL);
                for (int i = 0; i < a[1]; i++) {
                    all.tape += (char) (l[0] >> 8 * i & 255);
                }
                return all.tape.length();
            }
            case "text": {
                within(a[0], 0, 1);
                int fault = Splits.fault(all.tape, a[0]);
                if (fault < 0) {
                    all.texts[a[0]] = all.tape;
                }
                all.tape = "";
                return fault < 0 ? 1 : -10 - fault;
            }
            case "law":
                within(a[0], 0, 1);
                return lawOf(a[0], a[1], a[2], a[3]);
            case "days":
                within(a[0], 1, 100);
                ask(all.day + a[0] <= 9999, STATE);
                for (int i = 0; i < a[0]; i++) {
                    aDay();
                }
                return missing(all.places);
            default:
                within(a[0], 1, 40);
                ask(all.day + a[0] <= 9999, STATE);
                for (int i = 0; i < a[0]; i++) {
                    int place = draw() % 20;
                    all.places[place].missing = draw() % 10;
                    aDay();
                }
                return missing(all.places);
        }
    }

    private int seeingCall(String name, int[] a) {
        switch (name) {
            case "view":
                village(a[0]);
                within(a[1], 0, 1);
                within(a[2], 0, 100);
                return bitsOf(viewOf(behind(a[2]), all.villages.get(a[0]), a[1]));
            case "again":
                village(a[0]);
                within(a[1], 0, 19);
                ask(all.villages.get(a[0]) != a[1], BEYOND);
                for (int n = 0; n <= 100; n++) {
                    if (sees(behind(n), all.villages.get(a[0]), a[1])) {
                        return n;
                    }
                }
                throw new Refused(NONE);
            case "best": {
                within(a[0], 0, 1);
                int most = -1;
                int where = -1;
                for (int p = 19; p >= 0; p--) {
                    int sights = viewOf(all.places, p, 0).size() + viewOf(all.places, p, 1).size();
                    if (sights >= most) {
                        most = sights;
                        where = p;
                    }
                }
                return a[0] == 0 ? where : most;
            }
            case "tower": {
                within(a[0], 0, 19);
                within(a[1], 0, 19);
                ask(a[0] != a[1], BEYOND);
                Place[] land = behind(0);
                for (int t = 0; t <= 40; t++, land[a[0]].height++) {
                    if (sees(land, a[0], a[1])) {
                        return t;
                    }
                }
                throw new Refused(NONE);
            }
            case "mutual": {
                int twice = 0;
                for (int u : all.villages) {
                    for (int v : all.villages) {
                        twice += sees(all.places, u, v) && sees(all.places, v, u) ? 1 : 0;
                    }
                }
                return twice / 2;
            }
            case "unseen": {
                TreeSet<Integer> set = setOf(-1);
                for (int v : all.villages) {
                    set.remove(v);
                    set.removeIf(p -> sees(all.places, v, p));
                }
                return bitsOf(set);
            }
            case "both": {
                TreeSet<Integer> set = new TreeSet<>();
                for (int u : all.villages) {
                    for (int v : all.villages) {
                        for (int p = u + 1; p < v; p++) {
                            if (sees(all.places, u, p) && sees(all.places, v, p)) {
                                set.add(p);
                            }
                        }
                    }
                }
                return bitsOf(set);
            }
            default: {
                within(a[0], 1, (1 << 20) - 1);
                Place[] land = behind(0);
                for (int p : setOf(a[0])) {
                    land[p].missing = 0;
                }
                TreeSet<Integer> set = new TreeSet<>();
                for (int p = 0; p < 20; p++) {
                    if (viewOf(land, p, 0).containsAll(setOf(a[0])) || viewOf(land, p, 1).containsAll(setOf(a[0]))) {
                        set.add(p);
                    }
                }
                return bitsOf(set);
            }
        }
    }

    private int cellarCall(String name, int[] a) {
        int sets = 1 << all.bottles.size();
        switch (name) {
            case "cover": {
                within(a[0], 0, (1 << 20) - 1);
                for (int many = 0; many <= 8; many++) {
                    for (int set = 0; set < sets; set++) {
                        TreeSet<Integer> rest = setOf(a[0]);
                        for (int b : setOf(set)) {
                            rest.removeAll(all.bottles.get(b).left());
                        }
                        if (setOf(set).size() == many && rest.isEmpty()) {
                            return set;
                        }
                    }
                }
                throw new Refused(NONE);
            }
            case "keeps": {
                within(a[0], 0, 1);
                int[] cost = new int[8];
                for (int i = 0; i < all.bottles.size(); i++) {
                    cost[i] = cost(all.bottles.get(i));
                }
                int most = -1;
                int which = -1;
                for (int set = sets - 1; set >= 0; set--) {
                    TreeSet<Integer> left = new TreeSet<>();
                    int sum = 0;
                    int together = 0;
                    for (int b : setOf(set)) {
                        left.addAll(all.bottles.get(b).left());
                        together += all.bottles.get(b).left().size();
                        sum += cost[b];
                    }
                    if (together == left.size() && sum >= most) {
                        most = sum;
                        which = set;
                    }
                }
                return a[0] == 0 ? which : most;
            }
            default: {
                TreeSet<Integer> one = bottle(a[0]).left();
                TreeSet<Integer> other = bottle(a[1]).left();
                ask(a[0] != a[1], BEYOND);
                boolean joins = false;
                for (int p : one) {
                    ask(!other.contains(p), STATE);
                    joins |= other.contains(p - 1) || other.contains(p + 1);
                }
                ask(joins, STATE);
                one.addAll(other);
                return bitsOf(one);
            }
        }
    }

    private int sheetCall(String name, int[] a) {
        within(a[0], 0, 3);
        if (name.equals("sheet")) {
            ask(a[1] == 0 || a[1] == 8 || a[1] == 16 || a[1] == 32, BEYOND);
            if (a[1] == 0) {
                sheets[a[0]] = null;
                return 1;
            }
            ask(a[2] >= 0, STATE);
            ask(a[2] <= 40, BEYOND);
            sheets[a[0]] = new long[a[2]];
            bits[a[0]] = a[1];
            return 1;
        }
        if (name.equals("move")) {
            within(a[2], 0, 3);
            ask(sheets[a[0]] != null && sheets[a[2]] != null, NONE);
            ask(bits[a[0]] == bits[a[2]], KIND);
            ask(a[1] >= 0 && a[3] >= 0 && a[4] >= 0, BEYOND);
            ask((long) a[1] + a[4] <= sheets[a[0]].length && (long) a[3] + a[4] <= sheets[a[2]].length, BEYOND);
            long[] were = sheets[a[0]].clone();
            for (int i = 0; i < a[4]; i++) {
                sheets[a[2]][a[3] + i] = were[a[1] + i];
            }
            return a[4];
        }
        long[] numbers = sheets[a[0]];
        ask(numbers != null, NONE);
        if (name.equals("put")) {
            ask(a[1] >= 0 && a[1] < numbers.length, BEYOND);
            numbers[a[1]] = a[2] & (1L << bits[a[0]]) - 1;
            return 1;
        }
        if (name.equals("heights")) {
            for (int i = 0; i < 20; i++) {
                if (i >= numbers.length || numbers[i] > 20) {
                    return i;
                }
                all.places[i].height = (int) numbers[i];
            }
            return 20;
        }
        for (int i = 0; i < 40; i++) {
            if (i < 20 != i < numbers.length || i < 20 && numbers[i] != all.places[i].missing) {
                return i;
            }
        }
        return -1;
    }

    private int restCall(String name, int[] a) {
        switch (name) {
            case "seed": {
                int was = all.z;
                all.z = a[0];
                return was;
            }
            case "voice": {
                White b = bottle(a[0]);
                within(a[1], 0, 3);
                b.trace = new ArrayList<>();
                int said = a[1] == 0 ? b.pours(a[2]) : a[1] == 1 ? b.costs(a[2]) : a[1] == 2 ? b.ages(a[2]) : b.tells(a[2]);
                trace = new ArrayList<>(b.trace);
                return said;
            }
            case "trace":
                ask(a[0] >= 0 && a[0] < trace.size(), NONE);
                return trace.get(a[0]);
            case "image":
                image = all.copy();
                return ++images;
            case "restore":
                ask(image != null, NONE);
                all = image.copy();
                return all.day;
            case "tell":
                ask(all.waiting.size() < 20, FULL);
                all.waiting.add(a[0]);
                return all.waiting.size();
            case "check": {
                List<Integer> waited = all.waiting;
                all.waiting = new ArrayList<>();
                for (int i = 0; i < waited.size(); i++) {
                    if (waited.get(i) != missing(behind(i + 1))) {
                        return i + 1;
                    }
                }
                return 0;
            }
            case "count":
                within(a[0], 0, 9);
                return countOf(a[0]);
            default:
                within(a[0], 1, 5);
                return told[a[0]];
        }
    }

    private int countOf(int what) {
        int open = 0;
        int cost = 0;
        for (White b : all.bottles) {
            open += b.open ? 1 : 0;
            cost += what == 5 ? cost(b) : 0;
        }
        return new int[] {all.villages.size(), all.bottles.size(), all.day, missing(all.places), open, cost,
            all.tape.length(), all.waiting.size(), trace.size(), all.z}[what];
    }

    static int faultOf(String signs, int use) {
        return Splits.fault(signs, use);
    }
}
