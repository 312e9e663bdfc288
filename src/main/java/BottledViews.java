/** A row of land, villages that look along it, and bottles that hold what was taken out of a view. */
public final class BottledViews {
    private static final int LOW = -1000000000;
    private static final int BEYOND = 1;
    private static final int NONE = 2;
    private static final int STATE = 3;
    private static final int FULL = 4;
    private static final int KIND = 5;

    private static final int PLACES = 20;
    private static final int ALL_PLACES = 1048575;
    private static final int MOST_HEIGHT = 20;
    private static final int FIRST_HEIGHT = 5;
    private static final int MOST_MISSING = 99;
    private static final int MOST_DAY = 9999;
    private static final int MOST_BEHIND = 100;
    private static final int MOST_TOWER = 40;
    private static final int WEST = 0;
    private static final int EAST = 1;

    private static final int MOST_VILLAGES = 5;
    private static final int MOST_BOTTLES = 8;
    private static final int MOST_AGE = 99;
    private static final int KINDS = 7;
    private static final int WHITE = 0;
    private static final int BLUE = 1;
    private static final int CUT = 2;
    private static final int OLD = 3;
    private static final int LONG = 4;
    private static final int FORGED = 5;
    private static final int VINTAGE = 6;
    /** WHITE has no KIND above it; it stands as its own so that the row can always be asked. */
    private static final int[] KIND_ABOVE = {WHITE, WHITE, WHITE, WHITE, BLUE, CUT, OLD};

    private static final int MOST_BYTES = 50;
    private static final int MOST_SIGNS_OPEN = 5;
    private static final int MOST_DIGITS = 4;
    private static final int GROWS = 0;
    private static final int COSTS = 1;
    private static final int NAMES_OF_USE = 3;
    /** By USE, three each. */
    private static final char[] NAMES = {'h', 's', 'd', 'k', 'l', 'a'};
    private static final int NO_SIGN = -1;
    private static final int NO_LEVEL = -1;
    private static final int LEVEL_EITHER = 0;
    private static final int LEVEL_ALL = 1;
    private static final int LEVEL_COMPARED = 2;
    private static final int LEVEL_SUM = 3;
    private static final int LEVEL_PRODUCT = 4;

    private static final int ACTS = 4;
    private static final int VOICE_POURS = 0;
    private static final int VOICE_COSTS = 1;
    private static final int VOICE_AGES = 2;
    private static final int VOICE_TELLS = 3;
    /** By KIND and VOICE; 0 where the KIND has no BODY of its own. */
    private static final int[] BODIES = {
        10, 11, 12, 13,
        20, 0, 0, 0,
        0, 30, 0, 0,
        0, 0, 40, 0,
        0, 0, 0, 50,
        0, 60, 0, 0,
        0, 0, 70, 71,
    };
    private static final int MOST_TRACE = 40;
    /** Far above what the BODIES need: the deepest VOICE opens five of them. */
    private static final int DEEPEST_BODY = 20;

    private static final int SHEETS = 4;
    private static final int MOST_NUMBERS = 40;
    private static final int MOST_WAITING = 20;

    private final Town town = new Town();
    private final Town kept = new Town();
    private int imagesMade = 0;
    private final Reader reader = new Reader();
    private final Voices voices = new Voices();
    private final Sheet[] sheets = new Sheet[SHEETS];
    private final int[] errorsTold = new int[KIND + 1];
    private final int[] lefts = new int[MOST_BOTTLES];
    private final int[] prices = new int[MOST_BOTTLES];

    public BottledViews() {
        for (int i = 0; i < SHEETS; i++) {
            sheets[i] = new Sheet();
        }
    }

    // ---- the land, villages

    public int land(int place, int what, int v) {
        int most = what == 0 ? MOST_HEIGHT : MOST_MISSING;
        if (!isPlace(place) || !isWithin(what, 0, 1) || !isWithin(v, 0, most)) {
            return error(BEYOND);
        }
        int[] row = what == 0 ? town.ground.height : town.ground.missing;
        int before = row[place];
        row[place] = v;
        return before;
    }

    public int ofPlace(int place, int what) {
        if (!isPlace(place) || !isWithin(what, 0, 5)) {
            return error(BEYOND);
        }
        Land ground = town.ground;
        switch (what) {
            case 0:
                return ground.height[place];
            case 1:
                return ground.missing[place];
            case 2:
                return ground.seenFrom(place, WEST, ground.goneBehind(0));
            case 3:
                return ground.seenFrom(place, EAST, ground.goneBehind(0));
            case 4:
                return Integer.bitCount(ground.seenAround(place, ground.goneBehind(0)));
            default:
                return town.villagesOn(place);
        }
    }

    public int village(int place) {
        if (!isPlace(place)) {
            return error(BEYOND);
        }
        if (town.villages >= MOST_VILLAGES) {
            return error(FULL);
        }
        town.home[town.villages] = place;
        town.villages++;
        return town.villages - 1;
    }

    public int moves(int village, int place) {
        if (!isVillage(village) || !isPlace(place)) {
            return error(BEYOND);
        }
        int before = town.home[village];
        town.home[village] = place;
        return before;
    }

    public int at(int village) {
        if (!isVillage(village)) {
            return error(BEYOND);
        }
        return town.home[village];
    }

    // ---- bottles

    public int fill(int km, int village, int side, int places) {
        if (!isKindWithNumber(km) || !isVillage(village) || !isSide(side) || !isSomePlaces(places)) {
            return error(BEYOND);
        }
        int from = town.home[village];
        int seen = town.ground.seenFrom(from, side, town.ground.goneBehind(0));
        if ((places & ~seen) != 0) {
            return error(STATE);
        }
        if (town.filled >= MOST_BOTTLES) {
            return error(FULL);
        }
        takeOut(places, from);
        town.bottles[town.filled].startAs(km, from, places);
        town.filled++;
        return town.filled - 1;
    }

    public int ofBottle(int bottle, int what) {
        if (!isBottle(bottle) || !isWithin(what, 0, 8)) {
            return error(BEYOND);
        }
        Bottle asked = town.bottles[bottle];
        switch (what) {
            case 0:
                return asked.kind;
            case 1:
                return asked.m;
            case 2:
                return asked.from;
            case 3:
                return asked.holds;
            case 4:
                return asked.age;
            case 5:
                return oneIf(asked.opened);
            case 6:
                return asked.left();
            case 7:
                return asked.leagues();
            default:
                return priceOf(asked);
        }
    }

    public int become(int bottle, int km) {
        if (!isBottle(bottle) || !isKindWithNumber(km)) {
            return error(BEYOND);
        }
        int before = town.bottles[bottle].kind;
        town.bottles[bottle].turnInto(km);
        return before;
    }

    public int as(int bottle, int kind) {
        if (!isBottle(bottle) || !isWithin(kind, 0, KINDS - 1)) {
            return error(BEYOND);
        }
        if (!town.bottles[bottle].isOfKind(kind)) {
            return error(KIND);
        }
        return town.bottles[bottle].m;
    }

    public int open(int bottle) {
        if (!isBottle(bottle)) {
            return error(BEYOND);
        }
        Bottle corked = town.bottles[bottle];
        if (corked.opened) {
            return error(STATE);
        }
        int back = corked.left() & town.ground.goneBehind(0);
        town.ground.bringBack(back);
        corked.holds = 0;
        corked.opened = true;
        return Integer.bitCount(back);
    }

    // ---- texts

    public int feed(long word, int n) {
        if (!isWithin(n, 1, 8)) {
            return error(BEYOND);
        }
        if (town.tape.length + n > MOST_BYTES) {
            return error(FULL);
        }
        for (int i = 0; i < n; i++) {
            town.tape.append((int) (word >>> (8 * i)) & 255);
        }
        return town.tape.length;
    }

    public int text(int use) {
        if (!isUse(use)) {
            return error(BEYOND);
        }
        int fault = reader.faultOf(town.tape, use);
        if (fault < 0) {
            town.textOf(use).copyTape(town.tape);
        }
        town.tape.length = 0;
        return fault < 0 ? 1 : -10 - fault;
    }

    public int law(int use, int a, int b, int c) {
        if (!isUse(use)) {
            return error(BEYOND);
        }
        return lawGives(use, a, b, c);
    }

    // ---- days

    public int days(int n) {
        if (!isWithin(n, 1, 100)) {
            return error(BEYOND);
        }
        if (town.day + n > MOST_DAY) {
            return error(STATE);
        }
        for (int i = 0; i < n; i++) {
            town.passDay();
        }
        return missingBehind(0);
    }

    public int loose(int n) {
        if (!isWithin(n, 1, 40)) {
            return error(BEYOND);
        }
        if (town.day + n > MOST_DAY) {
            return error(STATE);
        }
        for (int i = 0; i < n; i++) {
            town.passLooseDay();
        }
        return missingBehind(0);
    }

    // ---- what is seen, what would be

    public int view(int village, int side, int n) {
        if (!isVillage(village) || !isSide(side) || !isWithin(n, 0, MOST_BEHIND)) {
            return error(BEYOND);
        }
        return town.ground.seenFrom(town.home[village], side, town.ground.goneBehind(n));
    }

    public int again(int village, int place) {
        if (!isVillage(village) || !isPlace(place) || town.home[village] == place) {
            return error(BEYOND);
        }
        for (int n = 0; n <= MOST_BEHIND; n++) {
            if (town.ground.sees(town.home[village], place, 0, town.ground.goneBehind(n))) {
                return n;
            }
        }
        return error(NONE);
    }

    public int best(int what) {
        if (!isWithin(what, 0, 1)) {
            return error(BEYOND);
        }
        int gone = town.ground.goneBehind(0);
        int bestPlace = 0;
        int mostSights = -1;
        for (int place = 0; place < PLACES; place++) {
            int sights = Integer.bitCount(town.ground.seenAround(place, gone));
            if (sights > mostSights) {
                mostSights = sights;
                bestPlace = place;
            }
        }
        return what == 0 ? bestPlace : mostSights;
    }

    public int tower(int from, int to) {
        if (!isPlace(from) || !isPlace(to) || from == to) {
            return error(BEYOND);
        }
        int gone = town.ground.goneBehind(0);
        for (int higher = 0; higher <= MOST_TOWER; higher++) {
            if (town.ground.sees(from, to, higher, gone)) {
                return higher;
            }
        }
        return error(NONE);
    }

    public int mutual() {
        int gone = town.ground.goneBehind(0);
        int pairs = 0;
        for (int i = 0; i < town.villages; i++) {
            for (int j = i + 1; j < town.villages; j++) {
                int one = town.home[i];
                int other = town.home[j];
                if (town.ground.sees(one, other, 0, gone) && town.ground.sees(other, one, 0, gone)) {
                    pairs++;
                }
            }
        }
        return pairs;
    }

    public int unseen() {
        int known = town.seenByAll(WEST) | town.seenByAll(EAST);
        for (int i = 0; i < town.villages; i++) {
            known |= 1 << town.home[i];
        }
        return ALL_PLACES & ~known;
    }

    public int cover(int places) {
        if (!isWithin(places, 0, ALL_PLACES)) {
            return error(BEYOND);
        }
        workOutLefts();
        int fewest = -1;
        for (int set = 0; set < 1 << town.filled; set++) {
            boolean fewer = fewest < 0 || Integer.bitCount(set) < Integer.bitCount(fewest);
            if (fewer && (places & ~leftInAny(set)) == 0) {
                fewest = set;
            }
        }
        return fewest < 0 ? error(NONE) : fewest;
    }

    public int keeps(int what) {
        if (!isWithin(what, 0, 1)) {
            return error(BEYOND);
        }
        workOutLefts();
        workOutPrices();
        int dearest = 0;
        int most = 0;
        for (int set = 0; set < 1 << town.filled; set++) {
            int together = priceTogether(set);
            if (together > most && isApart(set)) {
                dearest = set;
                most = together;
            }
        }
        return what == 0 ? dearest : most;
    }

    public int blend(int one, int other) {
        if (!isBottle(one) || !isBottle(other) || one == other) {
            return error(BEYOND);
        }
        int left = town.bottles[one].left();
        int right = town.bottles[other].left();
        boolean touch = (left << 1 & right) != 0 || (right << 1 & left) != 0;
        if ((left & right) != 0 || !touch) {
            return error(STATE);
        }
        return left | right;
    }

    public int thief(int places) {
        if (!isSomePlaces(places)) {
            return error(BEYOND);
        }
        int gone = town.ground.goneBehind(0) & ~places;
        int stood = 0;
        for (int place = 0; place < PLACES; place++) {
            int west = town.ground.seenFrom(place, WEST, gone);
            int east = town.ground.seenFrom(place, EAST, gone);
            if ((places & ~west) == 0 || (places & ~east) == 0) {
                stood |= 1 << place;
            }
        }
        return stood;
    }

    public int both() {
        return town.seenByAll(WEST) & town.seenByAll(EAST);
    }

    // ---- draws, voices, sheets, images, what is told

    public int seed(int v) {
        int before = town.z;
        town.z = v;
        return before;
    }

    public int voice(int bottle, int act, int x) {
        if (!isBottle(bottle) || !isWithin(act, 0, ACTS - 1)) {
            return error(BEYOND);
        }
        Bottle speaker = town.bottles[bottle];
        return voices.speak(speaker.kind, bottle, speaker.m, act, x);
    }

    public int trace(int i) {
        if (!isWithin(i, 0, voices.begun - 1)) {
            return error(NONE);
        }
        return voices.row[i];
    }

    public int sheet(int sheet, int bits, int n) {
        if (!isSheet(sheet) || bits != 0 && bits != 8 && bits != 16 && bits != 32) {
            return error(BEYOND);
        }
        if (bits != 0 && n < 0) {
            return error(STATE);
        }
        if (bits != 0 && n > MOST_NUMBERS) {
            return error(BEYOND);
        }
        sheets[sheet].startWith(bits, n);
        return 1;
    }

    public int put(int sheet, int i, int v) {
        if (!isSheet(sheet)) {
            return error(BEYOND);
        }
        Sheet written = sheets[sheet];
        if (written.bits == 0) {
            return error(NONE);
        }
        if (!isWithin(i, 0, written.size - 1)) {
            return error(BEYOND);
        }
        written.numbers[i] = written.cut(v);
        return 1;
    }

    public int move(int sheet, int i, int other, int j, int n) {
        if (!isSheet(sheet) || !isSheet(other)) {
            return error(BEYOND);
        }
        Sheet source = sheets[sheet];
        Sheet target = sheets[other];
        if (source.bits == 0 || target.bits == 0) {
            return error(NONE);
        }
        if (source.bits != target.bits) {
            return error(KIND);
        }
        if (!source.hasRun(i, n) || !target.hasRun(j, n)) {
            return error(BEYOND);
        }
        System.arraycopy(source.numbers, i, target.numbers, j, n);
        return n;
    }

    public int heights(int sheet) {
        if (!isSheet(sheet)) {
            return error(BEYOND);
        }
        Sheet told = sheets[sheet];
        if (told.bits == 0) {
            return error(NONE);
        }
        int done = 0;
        while (done < PLACES && done < told.size && isWithin(told.numbers[done], 0, MOST_HEIGHT)) {
            town.ground.height[done] = told.numbers[done];
            done++;
        }
        return done;
    }

    public int judge(int sheet) {
        if (!isSheet(sheet)) {
            return error(BEYOND);
        }
        Sheet told = sheets[sheet];
        if (told.bits == 0) {
            return error(NONE);
        }
        int alike = 0;
        while (alike < PLACES && alike < told.size && told.numbers[alike] == town.ground.missing[alike]) {
            alike++;
        }
        return alike == PLACES && alike == told.size ? -1 : alike;
    }

    public int image() {
        kept.copyTown(town);
        imagesMade++;
        return imagesMade;
    }

    public int restore() {
        if (imagesMade == 0) {
            return error(NONE);
        }
        town.copyTown(kept);
        return town.day;
    }

    public int tell(int v) {
        if (town.waits >= MOST_WAITING) {
            return error(FULL);
        }
        town.waiting[town.waits] = v;
        town.waits++;
        return town.waits;
    }

    public int check() {
        int told = town.waits;
        town.waits = 0;
        for (int i = 0; i < told; i++) {
            if (town.waiting[i] != missingBehind(i + 1)) {
                return 1 + i;
            }
        }
        return 0;
    }

    public int count(int what) {
        switch (what) {
            case 0:
                return town.villages;
            case 1:
                return town.filled;
            case 2:
                return town.day;
            case 3:
                return missingBehind(0);
            case 4:
                return town.openBottles();
            case 5:
                workOutPrices();
                return priceTogether((1 << town.filled) - 1);
            case 6:
                return town.tape.length;
            case 7:
                return town.waits;
            case 8:
                return voices.begun;
            case 9:
                return town.z;
            default:
                return error(BEYOND);
        }
    }

    public int told(int k) {
        if (!isWithin(k, BEYOND, KIND)) {
            return error(BEYOND);
        }
        return errorsTold[k];
    }

    // ---- what the calls ask of their numbers

    /** Errors are counted here and not by the answers, for some answers may be any number. */
    private int error(int k) {
        errorsTold[k]++;
        return LOW - k;
    }

    private static boolean isWithin(int v, int least, int most) {
        return v >= least && v <= most;
    }

    private static int held(int v, int least, int most) {
        return Math.max(least, Math.min(most, v));
    }

    private static int oneIf(boolean holds) {
        return holds ? 1 : 0;
    }

    private static int quotient(int one, int by) {
        return by == 0 ? 0 : one / by;
    }

    private static boolean isPlace(int place) {
        return isWithin(place, 0, PLACES - 1);
    }

    private static boolean isSomePlaces(int places) {
        return isWithin(places, 1, ALL_PLACES);
    }

    private static boolean isSide(int side) {
        return side == WEST || side == EAST;
    }

    private static boolean isKindWithNumber(int km) {
        return isWithin(km, 0, 10 * KINDS - 1);
    }

    private static boolean isUse(int use) {
        return use == GROWS || use == COSTS;
    }

    private static boolean isSheet(int sheet) {
        return isWithin(sheet, 0, SHEETS - 1);
    }

    private boolean isVillage(int village) {
        return isWithin(village, 0, town.villages - 1);
    }

    private boolean isBottle(int bottle) {
        return isWithin(bottle, 0, town.filled - 1);
    }

    // ---- what several calls work out

    private int missingBehind(int n) {
        return Integer.bitCount(town.ground.goneBehind(n));
    }

    private int lawGives(int use, int a, int b, int c) {
        Tape told = town.textOf(use);
        if (use == GROWS) {
            int grown = told.length > 0 ? reader.worth(told, use, a, b, c) : 3 + a;
            return held(grown, 1, MOST_MISSING);
        }
        int cost = told.length > 0 ? reader.worth(told, use, a, b, c) : a * 2 + b;
        return held(cost, 0, 999);
    }

    private void takeOut(int places, int from) {
        for (int place = 0; place < PLACES; place++) {
            if ((places >> place & 1) != 0) {
                int height = town.ground.height[place];
                town.ground.missing[place] = lawGives(GROWS, height, Math.abs(place - from), town.day);
            }
        }
    }

    private int priceOf(Bottle bottle) {
        int v = lawGives(COSTS, Integer.bitCount(bottle.left()), bottle.leagues(), bottle.age);
        return bottle.priceBy(v);
    }

    private void workOutLefts() {
        for (int i = 0; i < town.filled; i++) {
            lefts[i] = town.bottles[i].left();
        }
    }

    private void workOutPrices() {
        for (int i = 0; i < town.filled; i++) {
            prices[i] = priceOf(town.bottles[i]);
        }
    }

    private int leftInAny(int set) {
        int any = 0;
        for (int i = 0; i < town.filled; i++) {
            if ((set >> i & 1) != 0) {
                any |= lefts[i];
            }
        }
        return any;
    }

    private boolean isApart(int set) {
        int any = 0;
        for (int i = 0; i < town.filled; i++) {
            if ((set >> i & 1) != 0) {
                if ((any & lefts[i]) != 0) {
                    return false;
                }
                any |= lefts[i];
            }
        }
        return true;
    }

    private int priceTogether(int set) {
        int sum = 0;
        for (int i = 0; i < town.filled; i++) {
            if ((set >> i & 1) != 0) {
                sum += prices[i];
            }
        }
        return sum;
    }

    /** What is MISSING is handed in as a set, so that other days can be thought of without a second land. */
    private static final class Land {
        final int[] height = new int[PLACES];
        final int[] missing = new int[PLACES];

        Land() {
            for (int i = 0; i < PLACES; i++) {
                height[i] = FIRST_HEIGHT;
            }
        }

        int goneBehind(int n) {
            int gone = 0;
            for (int place = 0; place < PLACES; place++) {
                if (missing[place] > n) {
                    gone |= 1 << place;
                }
            }
            return gone;
        }

        boolean sees(int from, int to, int higher, int gone) {
            if (from == to || (gone >> to & 1) != 0) {
                return false;
            }
            int step = to > from ? 1 : -1;
            int steps = Math.abs(to - from);
            int eye = height[from] + higher;
            int rise = height[to] - eye;
            for (int i = 1; i < steps; i++) {
                int between = from + step * i;
                boolean there = (gone >> between & 1) == 0;
                if (there && (height[between] - eye) * steps >= rise * i) {
                    return false;
                }
            }
            return true;
        }

        int seenFrom(int from, int side, int gone) {
            int first = side == WEST ? 0 : from + 1;
            int end = side == WEST ? from : PLACES;
            int seen = 0;
            for (int to = first; to < end; to++) {
                if (sees(from, to, 0, gone)) {
                    seen |= 1 << to;
                }
            }
            return seen;
        }

        int seenAround(int from, int gone) {
            return seenFrom(from, WEST, gone) | seenFrom(from, EAST, gone);
        }

        void bringBack(int places) {
            for (int place = 0; place < PLACES; place++) {
                if ((places >> place & 1) != 0) {
                    missing[place] = 0;
                }
            }
        }

        void growDay() {
            for (int place = 0; place < PLACES; place++) {
                missing[place] = Math.max(0, missing[place] - 1);
            }
        }

        void copyLand(Land other) {
            System.arraycopy(other.height, 0, height, 0, PLACES);
            System.arraycopy(other.missing, 0, missing, 0, PLACES);
        }
    }

    private static final class Bottle {
        int kind;
        int m;
        int from;
        int holds;
        int age;
        boolean opened;

        void startAs(int km, int filledFrom, int places) {
            turnInto(km);
            from = filledFrom;
            holds = places;
            age = 0;
            opened = false;
        }

        void turnInto(int km) {
            kind = km / 10;
            m = km % 10;
        }

        boolean isOfKind(int asked) {
            // Two KINDS stand above the lowest ones, so three looks reach WHITE from any.
            int own = kind;
            for (int i = 0; i < 3; i++) {
                if (own == asked) {
                    return true;
                }
                own = KIND_ABOVE[own];
            }
            return false;
        }

        int left() {
            if (opened) {
                return 0;
            }
            switch (kind) {
                case BLUE:
                case LONG:
                    return heldBetween(3, PLACES);
                case CUT:
                case FORGED:
                    return holds | 1 << m;
                case OLD:
                    return heldBetween(0, PLACES - 1 - age);
                case VINTAGE:
                    return heldBetween(0, PLACES - 1 - age / 2);
                default:
                    return holds;
            }
        }

        private int heldBetween(int least, int most) {
            int found = 0;
            for (int place = 0; place < PLACES; place++) {
                if (isWithin(Math.abs(place - from), least, most)) {
                    found |= 1 << place;
                }
            }
            return found & holds;
        }

        int leagues() {
            int left = left();
            int most = 0;
            for (int place = 0; place < PLACES; place++) {
                if ((left >> place & 1) != 0) {
                    most = Math.max(most, Math.abs(place - from));
                }
            }
            return most;
        }

        int priceBy(int v) {
            switch (kind) {
                case BLUE:
                    return 2 * v;
                case LONG:
                    return 2 * v + 5 * m;
                case CUT:
                    return v / 2;
                case FORGED:
                    return 1;
                case OLD:
                    return v + age;
                case VINTAGE:
                    return v + age + quotient(age, m + 1);
                default:
                    return v;
            }
        }

        void ageDay() {
            if (!opened) {
                age = Math.min(MOST_AGE, age + 1);
            }
        }

        void copyBottle(Bottle other) {
            kind = other.kind;
            m = other.m;
            from = other.from;
            holds = other.holds;
            age = other.age;
            opened = other.opened;
        }
    }

    /** Bytes in a row: THE TAPE, and each TEXT that was read from it. */
    private static final class Tape {
        final byte[] bytes = new byte[MOST_BYTES];
        int length = 0;

        void append(int sign) {
            if (length < MOST_BYTES) {
                bytes[length] = (byte) sign;
                length++;
            }
        }

        void copyTape(Tape other) {
            System.arraycopy(other.bytes, 0, bytes, 0, MOST_BYTES);
            length = other.length;
        }
    }

    /** All that an IMAGE keeps. */
    private static final class Town {
        final Land ground = new Land();
        final int[] home = new int[MOST_VILLAGES];
        int villages = 0;
        final Bottle[] bottles = new Bottle[MOST_BOTTLES];
        int filled = 0;
        int day = 0;
        int z = 1;
        final Tape tape = new Tape();
        final Tape growsText = new Tape();
        final Tape costsText = new Tape();
        final int[] waiting = new int[MOST_WAITING];
        int waits = 0;

        Town() {
            for (int i = 0; i < MOST_BOTTLES; i++) {
                bottles[i] = new Bottle();
            }
        }

        Tape textOf(int use) {
            return use == GROWS ? growsText : costsText;
        }

        int villagesOn(int place) {
            int set = 0;
            for (int i = 0; i < villages; i++) {
                if (home[i] == place) {
                    set |= 1 << i;
                }
            }
            return set;
        }

        int seenByAll(int side) {
            int gone = ground.goneBehind(0);
            int seen = 0;
            for (int i = 0; i < villages; i++) {
                seen |= ground.seenFrom(home[i], side, gone);
            }
            return seen;
        }

        int openBottles() {
            int opened = 0;
            for (int i = 0; i < filled; i++) {
                opened += oneIf(bottles[i].opened);
            }
            return opened;
        }

        void passDay() {
            ground.growDay();
            for (int i = 0; i < filled; i++) {
                bottles[i].ageDay();
            }
            day++;
        }

        void passLooseDay() {
            int place = draw() % PLACES;
            ground.missing[place] = draw() % 10;
            passDay();
        }

        private int draw() {
            z = z * 1103515245 + 12345;
            return z >>> 8;
        }

        void copyTown(Town other) {
            ground.copyLand(other.ground);
            System.arraycopy(other.home, 0, home, 0, MOST_VILLAGES);
            villages = other.villages;
            for (int i = 0; i < MOST_BOTTLES; i++) {
                bottles[i].copyBottle(other.bottles[i]);
            }
            filled = other.filled;
            day = other.day;
            z = other.z;
            tape.copyTape(other.tape);
            growsText.copyTape(other.growsText);
            costsText.copyTape(other.costsText);
            System.arraycopy(other.waiting, 0, waiting, 0, MOST_WAITING);
            waits = other.waits;
        }
    }

    /**
     * Reads a TEXT and works it out in one go; to find the FAULT it is read with its NAMES as 0.
     * Behind a FAULT there is no sign any more, so that nothing goes on and next stays on the place.
     */
    private static final class Reader {
        private Tape tape = new Tape();
        private int use = GROWS;
        private final int[] named = new int[NAMES_OF_USE];
        private int next = 0;
        private int sign = NO_SIGN;
        private int fault = -1;

        /** Below 0: there is none. */
        int faultOf(Tape read, int useOfIt) {
            worth(read, useOfIt, 0, 0, 0);
            return fault;
        }

        int worth(Tape read, int useOfIt, int a, int b, int c) {
            tape = read;
            use = useOfIt;
            named[0] = a;
            named[1] = b;
            named[2] = c;
            next = -1;
            fault = -1;
            step();
            int value = readJoined(LEVEL_EITHER, 0);
            if (next < tape.length) {
                refuse();
            }
            return value;
        }

        private void step() {
            next++;
            sign = next < tape.length ? tape.bytes[next] & 255 : NO_SIGN;
        }

        private void refuse() {
            fault = next;
            sign = NO_SIGN;
        }

        /** T, A, B, S and P are one rule on five levels, but that a B is joined once at most. */
        private int readJoined(int level, int depth) {
            boolean lowest = level >= LEVEL_PRODUCT;
            int value = lowest ? readSingle(depth) : readJoined(level + 1, depth);
            int most = level == LEVEL_COMPARED ? 1 : MOST_BYTES;
            for (int i = 0; i < most && levelOf(sign) == level; i++) {
                int joint = sign;
                step();
                int other = lowest ? readSingle(depth) : readJoined(level + 1, depth);
                value = joined(value, joint, other);
            }
            return value;
        }

        private int readSingle(int depth) {
            int value = 0;
            int digits = 0;
            while (digits < MOST_DIGITS && sign >= '0' && sign <= '9') {
                value = value * 10 + sign - '0';
                digits++;
                step();
            }
            if (digits > 0) {
                return value;
            }
            for (int i = 0; i < NAMES_OF_USE; i++) {
                if (sign == NAMES[use * NAMES_OF_USE + i]) {
                    step();
                    return named[i];
                }
            }
            if (depth < MOST_SIGNS_OPEN && sign == '!') {
                step();
                return readSingle(depth + 1) == 0 ? 1 : 0;
            }
            if (depth < MOST_SIGNS_OPEN && sign == '(') {
                step();
                value = readJoined(LEVEL_EITHER, depth + 1);
                if (sign == ')') {
                    step();
                    return value;
                }
            }
            refuse();
            return 0;
        }

        private static int levelOf(int sign) {
            switch (sign) {
                case '|':
                    return LEVEL_EITHER;
                case '&':
                    return LEVEL_ALL;
                case '<':
                case '=':
                case '>':
                    return LEVEL_COMPARED;
                case '+':
                case '-':
                    return LEVEL_SUM;
                case '*':
                case '/':
                case '%':
                    return LEVEL_PRODUCT;
                default:
                    return NO_LEVEL;
            }
        }

        private static int joined(int one, int joint, int other) {
            switch (joint) {
                case '|':
                    return one != 0 || other != 0 ? 1 : 0;
                case '&':
                    return one != 0 && other != 0 ? 1 : 0;
                case '<':
                    return one < other ? 1 : 0;
                case '=':
                    return one == other ? 1 : 0;
                case '>':
                    return one > other ? 1 : 0;
                case '+':
                    return one + other;
                case '-':
                    return one - other;
                case '*':
                    return one * other;
                case '/':
                    return quotient(one, other);
                default:
                    return other == 0 ? 0 : one % other;
            }
        }
    }

    private static final class Voices {
        final int[] row = new int[MOST_TRACE];
        int begun = 0;
        private int kind = WHITE;
        private int n = 0;
        private int m = 0;

        int speak(int ofKind, int number, int withM, int act, int x) {
            begun = 0;
            kind = ofKind;
            n = number;
            m = withM;
            return own(act, x, 0);
        }

        private int own(int act, int x, int depth) {
            return work(bodyFrom(kind, act), x, depth);
        }

        private int above(int body, int act, int x, int depth) {
            // A BODY's number tells its KIND: 10 to 13 are of WHITE, 20 of BLUE, and so on.
            return work(bodyFrom(KIND_ABOVE[body / 10 - 1], act), x, depth);
        }

        private static int bodyFrom(int lowest, int act) {
            int asked = lowest;
            for (int i = 0; i < KINDS && BODIES[asked * ACTS + act] == 0; i++) {
                asked = KIND_ABOVE[asked];
            }
            return BODIES[asked * ACTS + act];
        }

        private void begin(int body) {
            if (begun < MOST_TRACE) {
                row[begun] = body;
                begun++;
            }
        }

        private int work(int body, int x, int depth) {
            if (depth > DEEPEST_BODY) {
                return 0;
            }
            begin(body);
            int deeper = depth + 1;
            switch (body) {
                case 10:
                    return x + n;
                case 11:
                    return own(VOICE_POURS, x, deeper) * 2;
                case 12:
                    return x - m;
                case 13:
                    return own(VOICE_COSTS, x, deeper) ^ own(VOICE_AGES, x, deeper);
                case 20:
                    return above(body, VOICE_POURS, x, deeper) * 3;
                case 30:
                    return above(body, VOICE_COSTS, x, deeper) - own(VOICE_AGES, 1, deeper);
                case 40:
                    return -above(body, VOICE_AGES, x, deeper);
                case 50:
                    return above(body, VOICE_TELLS, x, deeper) - own(VOICE_POURS, 2, deeper);
                case 60:
                    return above(body, VOICE_COSTS, x + 1, deeper);
                case 70:
                    return above(body, VOICE_AGES, x, deeper) ^ n;
                case 71:
                    return own(VOICE_COSTS, x, deeper) - above(body, VOICE_TELLS, x, deeper);
                default:
                    return 0;
            }
        }
    }

    private static final class Sheet {
        /** 0: it is missing. */
        int bits = 0;
        int size = 0;
        final int[] numbers = new int[MOST_NUMBERS];

        void startWith(int newBits, int n) {
            bits = newBits;
            size = newBits == 0 ? 0 : n;
            for (int i = 0; i < MOST_NUMBERS; i++) {
                numbers[i] = 0;
            }
        }

        int cut(int v) {
            return bits == 8 ? v & 255 : bits == 16 ? v & 65535 : v;
        }

        boolean hasRun(int first, int n) {
            return first >= 0 && n >= 0 && first <= size - n;
        }
    }
}
