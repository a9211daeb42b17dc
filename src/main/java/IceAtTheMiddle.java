/**
 * Ice at the middle of the world. What each call answers stands in ../shared/DOC.md, promise by
 * promise; the words in capitals here are the document's.
 */
public final class IceAtTheMiddle {
    public static final int UNKNOWN = -1, OUTSIDE = -2, STATE = -3, FULL = -4, NONE = -9;

    private static final int BANDS = 6;
    private static final int WHITE = 63;
    private static final int STRIP = 62;
    private static final int AIRS = 100;
    private static final int ROUNDS = 100;
    private static final int STORIES = 4;
    private static final int LANDS = 4;
    private static final int SLOTS = 2;
    private static final int MOST_AFTER = 100000;

    private final Text text = new Text();
    private final LawReader lawReader = new LawReader();
    private final StoryReader storyReader = new StoryReader();
    private final Earth earth = new Earth();
    private final Run path = new Run();
    private final Curve bend = new Curve();
    private final Chronicle chronicle = new Chronicle();
    private final Ground ground = new Ground();
    private final Judge judge = new Judge();
    private final Dates dates = new Dates();
    private final Ground[] slots = {new Ground(), new Ground()};

    public IceAtTheMiddle() {
    }

    // ---- texts

    public int write(int n, long v) {
        if (!within(n, 1, 8)) {
            return OUTSIDE;
        }
        if (!text.hasRoomFor(n)) {
            return FULL;
        }
        text.put(n, v);
        return text.length;
    }

    public int wipe() {
        int was = text.length;
        text.length = 0;
        return was;
    }

    public int fault(boolean story) {
        return story ? storyReader.faultOf(text) : lawReader.faultOf(text);
    }

    public int law() {
        if (lawReader.faultOf(text) != NONE) {
            return STATE;
        }
        lawReader.giveTo(earth);
        return lawReader.parts;
    }

    public int lawful(int what) {
        if (!within(what, 0, Earth.NUMBERS - 1)) {
            return OUTSIDE;
        }
        return earth.law[what];
    }

    public int story(int story) {
        if (!isStory(story)) {
            return UNKNOWN;
        }
        if (storyReader.faultOf(text) != NONE) {
            return STATE;
        }
        storyReader.giveTo(chronicle, story);
        return storyReader.entries;
    }

    public int lived(int story, int ice, int air) {
        if (!isStory(story)) {
            return UNKNOWN;
        }
        if (!isIce(ice) || !isAir(air)) {
            return OUTSIDE;
        }
        int white = 0;
        int state = Earth.stateOf(ice, air);
        for (int round = 0; round < ROUNDS; round++) {
            int now = Earth.iceIn(state);
            chronicle.tell(story, round, now);
            if (now == WHITE) {
                white++;
            }
            state = earth.stateAfter(state);
        }
        return white;
    }

    public int at(int story, int round) {
        if (!isStory(story)) {
            return UNKNOWN;
        }
        if (!isRound(round)) {
            return OUTSIDE;
        }
        return chronicle.iceOf(story, round);
    }

    // ---- the earth

    public int warmth(int band, int ice, int air) {
        if (!isBand(band)) {
            return UNKNOWN;
        }
        if (!isIce(ice) || !isAir(air)) {
            return OUTSIDE;
        }
        return earth.fortyWarmth(band, ice, air);
    }

    public int round(int ice, int air) {
        if (!isIce(ice) || !isAir(air)) {
            return OUTSIDE;
        }
        return earth.stateAfter(Earth.stateOf(ice, air));
    }

    public int after(int ice, int air, int rounds) {
        if (!isIce(ice) || !isAir(air) || !within(rounds, 0, MOST_AFTER)) {
            return OUTSIDE;
        }
        path.follow(earth, ice, air);
        return path.stateAt(rounds);
    }

    public int run(int ice, int air, int what) {
        if (!isIce(ice) || !isAir(air) || !within(what, 0, 4)) {
            return OUTSIDE;
        }
        path.follow(earth, ice, air);
        switch (what) {
            case 0:
                return path.lead;
            case 1:
                return path.ring();
            case 2:
                return path.whiteInRing();
            case 3:
                return path.leastAirInRing();
            default:
                return path.greatestAirInRing();
        }
    }

    public int till(int ice, int air, boolean white) {
        if (!isIce(ice) || !isAir(air)) {
            return OUTSIDE;
        }
        path.follow(earth, ice, air);
        return path.firstWhite(white);
    }

    public int rests(int air) {
        if (!isAir(air)) {
            return OUTSIDE;
        }
        int found = 0;
        for (int ice = 0; ice <= WHITE; ice++) {
            if (earth.isRest(ice, air)) {
                found++;
            }
        }
        return found;
    }

    public int rest(int air, int i) {
        if (!isAir(air)) {
            return OUTSIDE;
        }
        int found = 0;
        for (int ice = 0; ice <= WHITE; ice++) {
            if (earth.isRest(ice, air)) {
                if (found == i) {
                    return ice;
                }
                found++;
            }
        }
        return NONE;
    }

    public int settle(int ice, int air) {
        if (!isIce(ice) || !isAir(air)) {
            return OUTSIDE;
        }
        return earth.settled(ice, air);
    }

    public int jumps(int ice, int air, int last) {
        if (!isIce(ice) || !isAir(air) || !isAir(last)) {
            return OUTSIDE;
        }
        bend.follow(earth, ice, air, last);
        return bend.found;
    }

    public int jump(int ice, int air, int last, int i) {
        if (!isIce(ice) || !isAir(air) || !isAir(last)) {
            return OUTSIDE;
        }
        bend.follow(earth, ice, air, last);
        return bend.airOf(i);
    }

    public int curve(int ice, int air, int last) {
        if (!isIce(ice) || !isAir(air) || !isAir(last)) {
            return OUTSIDE;
        }
        bend.follow(earth, ice, air, last);
        return bend.end;
    }

    public int least(boolean strip) {
        int ice = strip ? STRIP : WHITE;
        for (int air = 0; air < AIRS; air++) {
            if (earth.isRest(ice, air) == strip) {
                return air;
            }
        }
        return NONE;
    }

    // ---- beds

    public int bed(int land, int signs, int old, int young, int needle, int first) {
        if (!isLand(land) || !isBand(needle)) {
            return UNKNOWN;
        }
        if (!within(signs, 0, 15) || !isRound(old) || !isRound(young) || young < old || !within(first, 0, 10)) {
            return OUTSIDE;
        }
        if (ground.beds >= Ground.MOST) {
            return FULL;
        }
        int bed = ground.beds;
        ground.beds = bed + 1;
        ground.mark(bed, Ground.LAND, land);
        ground.mark(bed, Ground.SIGNS, signs);
        ground.mark(bed, Ground.OLD, old);
        ground.mark(bed, Ground.YOUNG, young);
        ground.mark(bed, Ground.NEEDLE, needle);
        ground.mark(bed, Ground.FIRST, first);
        return bed;
    }

    public int forget() {
        if (ground.beds <= 0) {
            return STATE;
        }
        ground.beds--;
        return ground.beds;
    }

    public int about(int bed, int what) {
        if (!isBed(bed)) {
            return UNKNOWN;
        }
        if (!within(what, 0, 7)) {
            return OUTSIDE;
        }
        if (what == 6) {
            return ground.slideTenths(bed);
        }
        if (what == 7) {
            return ground.isIcy(bed) ? 1 : 0;
        }
        return ground.markOf(bed, what);
    }

    public int explains(int story, int bed) {
        if (!isStory(story) || !isBed(bed)) {
            return UNKNOWN;
        }
        if (!ground.isIcy(bed)) {
            return STATE;
        }
        int ice = chronicle.someIce(story, ground.markOf(bed, Ground.OLD), ground.markOf(bed, Ground.YOUNG));
        if (hasIce(ice, ground.markOf(bed, Ground.NEEDLE))) {
            return 2;
        }
        return ice != 0 ? 1 : 0;
    }

    public long chance(int story, int bed, boolean upper) {
        if (!isStory(story) || !isBed(bed)) {
            return UNKNOWN;
        }
        return told(Judge.hundredths(chronicle, ground, story, bed), 100, upper);
    }

    public int weight(int story, int v) {
        if (!isStory(story)) {
            return UNKNOWN;
        }
        if (!within(v, 0, 9)) {
            return OUTSIDE;
        }
        int was = ground.weights[story];
        ground.weights[story] = v;
        return was;
    }

    public long odds(int story, boolean upper) {
        if (!isStory(story)) {
            return UNKNOWN;
        }
        judge.weigh(chronicle, ground);
        if (judge.all == 0) {
            return STATE;
        }
        return told(judge.shares[story], judge.all, upper);
    }

    public int best() {
        judge.weigh(chronicle, ground);
        return judge.all == 0 ? STATE : judge.greatest();
    }

    public int mover() {
        judge.weigh(chronicle, ground);
        return judge.all == 0 ? STATE : judge.bedThatMovesMost(ground);
    }

    public int next() {
        judge.weigh(chronicle, ground);
        return judge.all == 0 ? STATE : judge.whereToGo(chronicle);
    }

    // ---- dates, lands

    public int once() {
        return Dates.firstCommonRound(ground);
    }

    public int times() {
        dates.part(ground);
        return dates.found;
    }

    public int time(int i) {
        dates.part(ground);
        return dates.roundOf(i);
    }

    public int order(int land) {
        if (!isLand(land)) {
            return UNKNOWN;
        }
        return Dates.isInOrder(ground, land) ? 1 : 0;
    }

    public int gap(int bed) {
        if (!isBed(bed)) {
            return UNKNOWN;
        }
        int land = ground.markOf(bed, Ground.LAND);
        int earliest = Dates.earliestBelow(ground, land, bed);
        if (earliest == NONE || !Dates.isInOrder(ground, land)) {
            return STATE;
        }
        return Dates.latestFrom(ground, land, bed) - earliest;
    }

    public int pole(int story, int k) {
        if (!isStory(story)) {
            return UNKNOWN;
        }
        if (!isBand(k)) {
            return OUTSIDE;
        }
        return Judge.explainedBy(chronicle, ground, story, k);
    }

    public int elsewhere(int story) {
        if (!isStory(story)) {
            return UNKNOWN;
        }
        int bestK = 0;
        int most = -1;
        for (int k = 0; k < BANDS; k++) {
            int explained = Judge.explainedBy(chronicle, ground, story, k);
            if (explained > most) {
                most = explained;
                bestK = k;
            }
        }
        return bestK;
    }

    // ---- slots

    public int keep(int slot) {
        if (!isSlot(slot)) {
            return UNKNOWN;
        }
        slots[slot].copyFrom(ground);
        slots[slot].isKept = true;
        return ground.beds;
    }

    public int again(int slot) {
        if (!isSlot(slot)) {
            return UNKNOWN;
        }
        if (!slots[slot].isKept) {
            return STATE;
        }
        ground.copyFrom(slots[slot]);
        return ground.beds;
    }

    public int count(int what) {
        switch (what) {
            case 0:
                return text.length;
            case 1:
                return ground.beds;
            case 2:
                return ground.icyBeds();
            case 3:
                return ground.weightsTogether();
            default:
                return OUTSIDE;
        }
    }

    // ---- what the calls share

    private static boolean within(int v, int low, int high) {
        return v >= low && v <= high;
    }

    private static boolean isBand(int band) {
        return within(band, 0, BANDS - 1);
    }

    private static boolean isIce(int ice) {
        return within(ice, 0, WHITE);
    }

    private static boolean isAir(int air) {
        return within(air, 0, AIRS - 1);
    }

    private static boolean isRound(int round) {
        return within(round, 0, ROUNDS - 1);
    }

    private static boolean isStory(int story) {
        return within(story, 0, STORIES - 1);
    }

    private static boolean isLand(int land) {
        return within(land, 0, LANDS - 1);
    }

    private static boolean isSlot(int slot) {
        return within(slot, 0, SLOTS - 1);
    }

    private boolean isBed(int bed) {
        return within(bed, 0, ground.beds - 1);
    }

    private static boolean hasIce(int ice, int band) {
        return (ice >> band & 1) == 1;
    }

    private static int figure(int sign) {
        return sign >= '0' && sign <= '9' ? sign - '0' : NONE;
    }

    private static long told(long above, long below, boolean upper) {
        long common = greatestCommon(above, below);
        if (common <= 0) {
            return NONE;
        }
        return upper ? above / common : below / common;
    }

    private static long greatestCommon(long a, long b) {
        long high = a;
        long low = b;
        // Two longs are through in less than a hundred steps, as numbers of Fibonacci are the slowest.
        for (int i = 0; i < 100 && low != 0; i++) {
            long rest = high % low;
            high = low;
            low = rest;
        }
        return high;
    }

    /** THE TEXT. */
    private static final class Text {
        static final int MOST = 48;

        final int[] signs = new int[MOST];
        int length;

        boolean hasRoomFor(int n) {
            return n <= MOST - length;
        }

        void put(int n, long v) {
            for (int i = n - 1; i >= 0 && length < MOST; i--) {
                signs[length] = (int) (v >>> 8 * i) & 255;
                length++;
            }
        }
    }

    /** Reads a LAW byte by byte and refuses the first byte that can stand in none. */
    private static final class LawReader {
        private static final String KINDS = "RGFMVW";
        private static final int UNTOLD = -1;

        final int[] numbers = new int[Earth.NUMBERS];
        int parts;
        int figuresDue;
        int place;
        boolean bandDue;

        int faultOf(Text t) {
            begin();
            for (int i = 0; i < t.length && i < Text.MOST; i++) {
                if (!takes(t.signs[i])) {
                    return i;
                }
            }
            return figuresDue > 0 || bandDue ? t.length : NONE;
        }

        void giveTo(Earth e) {
            for (int i = 0; i < Earth.NUMBERS; i++) {
                e.law[i] = Math.max(numbers[i], 0);
            }
        }

        private void begin() {
            for (int i = 0; i < Earth.NUMBERS; i++) {
                numbers[i] = UNTOLD;
            }
            parts = 0;
            figuresDue = 0;
            place = 0;
            bandDue = false;
        }

        private boolean takes(int sign) {
            if (figuresDue > 0) {
                return takesFigure(sign);
            }
            if (bandDue) {
                return takesBand(sign);
            }
            return takesKind(sign);
        }

        private boolean takesKind(int sign) {
            if (sign == 'L') {
                bandDue = someBandIsUntold();
                return bandDue;
            }
            int kind = KINDS.indexOf((char) sign);
            return kind >= 0 && opens(BANDS + kind);
        }

        private boolean takesBand(int sign) {
            bandDue = false;
            int band = figure(sign);
            return isBand(band) && opens(band);
        }

        private boolean takesFigure(int sign) {
            int tenth = figure(sign);
            if (tenth == NONE || !within(place, 0, Earth.NUMBERS - 1)) {
                return false;
            }
            numbers[place] = 10 * numbers[place] + tenth;
            figuresDue--;
            if (figuresDue == 0) {
                parts++;
            }
            return true;
        }

        private boolean opens(int number) {
            if (!within(number, 0, Earth.NUMBERS - 1) || numbers[number] != UNTOLD) {
                return false;
            }
            place = number;
            numbers[number] = 0;
            figuresDue = number < BANDS || number == Earth.F ? 2 : 1;
            return true;
        }

        private boolean someBandIsUntold() {
            for (int band = 0; band < BANDS; band++) {
                if (numbers[band] == UNTOLD) {
                    return true;
                }
            }
            return false;
        }
    }

    /** Reads a STORY byte by byte and refuses the first byte that can stand in none. */
    private static final class StoryReader {
        private static final int TENS_DUE = 0, ONES_DUE = 1, COLON_DUE = 2, BANDS_DUE = 3;
        private static final int UNTOLD = -1;

        final int[] iceFrom = new int[ROUNDS];
        int entries;
        int due;
        int roundAhead;
        int tens;
        int roundNow;
        int bandAhead;

        int faultOf(Text t) {
            begin();
            for (int i = 0; i < t.length && i < Text.MOST; i++) {
                if (!takes(t.signs[i])) {
                    return i;
                }
            }
            return due == BANDS_DUE ? NONE : t.length;
        }

        void giveTo(Chronicle c, int story) {
            int ice = 0;
            for (int round = 0; round < ROUNDS; round++) {
                if (iceFrom[round] != UNTOLD) {
                    ice = iceFrom[round];
                }
                c.tell(story, round, ice);
            }
        }

        private void begin() {
            for (int i = 0; i < ROUNDS; i++) {
                iceFrom[i] = UNTOLD;
            }
            entries = 0;
            due = TENS_DUE;
            roundAhead = -1;
            tens = 0;
            roundNow = 0;
            bandAhead = -1;
        }

        private boolean takes(int sign) {
            switch (due) {
                case TENS_DUE:
                    return takesTens(sign);
                case ONES_DUE:
                    return takesOnes(sign);
                case COLON_DUE:
                    return takesColon(sign);
                default:
                    return sign == ';' ? takesNextEntry() : takesBand(sign);
            }
        }

        private boolean takesTens(int sign) {
            tens = figure(sign);
            due = ONES_DUE;
            return tens != NONE && 10 * tens + 9 > roundAhead;
        }

        private boolean takesOnes(int sign) {
            int ones = figure(sign);
            roundNow = 10 * tens + ones;
            due = COLON_DUE;
            return ones != NONE && roundNow > roundAhead;
        }

        private boolean takesColon(int sign) {
            if (sign != ':' || !isRound(roundNow)) {
                return false;
            }
            iceFrom[roundNow] = 0;
            entries++;
            bandAhead = -1;
            due = BANDS_DUE;
            return true;
        }

        private boolean takesNextEntry() {
            roundAhead = roundNow;
            due = TENS_DUE;
            return roundNow < ROUNDS - 1;
        }

        private boolean takesBand(int sign) {
            int band = figure(sign);
            if (!isBand(band) || band <= bandAhead || !isRound(roundNow)) {
                return false;
            }
            iceFrom[roundNow] |= 1 << band;
            bandAhead = band;
            return true;
        }
    }

    /** THE LAW and what it makes of ICE and AIR; both together are a state, 100 times ICE, and AIR. */
    private static final class Earth {
        static final int R = 6, G = 7, F = 8, M = 9, V = 10, W = 11, NUMBERS = 12;
        static final int STATES = AIRS * (WHITE + 1);

        final int[] law = new int[NUMBERS];

        static int stateOf(int ice, int air) {
            return AIRS * ice + air;
        }

        static int iceIn(int state) {
            return state / AIRS;
        }

        static int airIn(int state) {
            return state % AIRS;
        }

        int takenBy(int band, int ice) {
            if (band < 0 || band >= BANDS) {
                return 0;
            }
            return law[band] * (hasIce(ice, band) ? 10 - law[R] : 10);
        }

        int fortyWarmth(int band, int ice, int air) {
            int nearer = Math.max(band - 1, 0);
            int farther = Math.min(band + 1, BANDS - 1);
            int light = 2 * takenBy(band, ice) + takenBy(nearer, ice) + takenBy(farther, ice);
            return light + 40 * law[G] * air;
        }

        int iceAfter(int ice, int air) {
            int freezing = 40 * law[F];
            int melting = freezing + 40 * law[M];
            int then = 0;
            for (int band = 0; band < BANDS; band++) {
                int warm = fortyWarmth(band, ice, air);
                if (warm < freezing || warm < melting && hasIce(ice, band)) {
                    then |= 1 << band;
                }
            }
            return then;
        }

        int airAfter(int ice, int air) {
            int bare = BANDS - Integer.bitCount(ice);
            int then = air + law[V] - law[W] * bare;
            return Math.max(0, Math.min(AIRS - 1, then));
        }

        int stateAfter(int state) {
            int ice = iceIn(state);
            int air = airIn(state);
            return stateOf(iceAfter(ice, air), airAfter(ice, air));
        }

        boolean isRest(int ice, int air) {
            return iceAfter(ice, air) == ice;
        }

        int settled(int ice, int air) {
            int now = ice;
            // Of 64 sets of BANDS one comes back in as many ROUNDS, if none of them is a REST.
            for (int i = 0; i <= WHITE; i++) {
                int then = iceAfter(now, air);
                if (then == now) {
                    return now;
                }
                now = then;
            }
            return NONE;
        }
    }

    /** A RUN, with its rows made once and used for each. */
    private static final class Run {
        final int[] states = new int[Earth.STATES];
        /** Behind which place a state stands in this RUN; all 0 between RUNS, so that none need be cleared. */
        final int[] placeBehind = new int[Earth.STATES];
        int length;
        int lead;

        void follow(Earth e, int ice, int air) {
            int state = Earth.stateOf(ice, air);
            length = 0;
            while (length < Earth.STATES && isNew(state)) {
                states[length] = state;
                length++;
                placeBehind[state] = length;
                state = e.stateAfter(state);
            }
            lead = within(state, 0, Earth.STATES - 1) ? Math.max(placeBehind[state] - 1, 0) : 0;
            for (int i = 0; i < length; i++) {
                placeBehind[states[i]] = 0;
            }
        }

        private boolean isNew(int state) {
            return within(state, 0, Earth.STATES - 1) && placeBehind[state] == 0;
        }

        int ring() {
            return length - lead;
        }

        int stateAt(int round) {
            int at = round;
            if (round >= length && ring() > 0) {
                at = lead + (round - lead) % ring();
            }
            return within(at, 0, length - 1) ? states[at] : NONE;
        }

        int whiteInRing() {
            int white = 0;
            for (int i = lead; i < length; i++) {
                if (Earth.iceIn(states[i]) == WHITE) {
                    white++;
                }
            }
            return white;
        }

        int leastAirInRing() {
            int found = AIRS;
            for (int i = lead; i < length; i++) {
                found = Math.min(found, Earth.airIn(states[i]));
            }
            return found;
        }

        int greatestAirInRing() {
            int found = 0;
            for (int i = lead; i < length; i++) {
                found = Math.max(found, Earth.airIn(states[i]));
            }
            return found;
        }

        int firstWhite(boolean white) {
            for (int i = 0; i < length; i++) {
                if ((Earth.iceIn(states[i]) == WHITE) == white) {
                    return i;
                }
            }
            return NONE;
        }
    }

    /** A CURVE: its JUMPS, and ICE at its end. */
    private static final class Curve {
        final int[] airs = new int[AIRS];
        int found;
        int end;

        void follow(Earth e, int ice, int air, int last) {
            int step = last < air ? -1 : 1;
            int steps = Math.abs(last - air);
            found = 0;
            end = ice;
            for (int i = 0; i <= steps && end != NONE; i++) {
                int then = e.settled(end, air + step * i);
                if (then != NONE && isJump(end, then)) {
                    add(air + step * i);
                }
                end = then;
            }
        }

        int airOf(int i) {
            return within(i, 0, found - 1) ? airs[i] : NONE;
        }

        private static boolean isJump(int before, int then) {
            return Math.abs(Integer.bitCount(before) - Integer.bitCount(then)) >= 2;
        }

        private void add(int air) {
            if (found < AIRS) {
                airs[found] = air;
                found++;
            }
        }
    }

    /** STORIES, ROUND by ROUND. */
    private static final class Chronicle {
        final int[] ice = new int[STORIES * ROUNDS];

        void tell(int story, int round, int now) {
            if (isStory(story) && isRound(round)) {
                ice[story * ROUNDS + round] = now;
            }
        }

        int iceOf(int story, int round) {
            return isStory(story) && isRound(round) ? ice[story * ROUNDS + round] : 0;
        }

        int someIce(int story, int old, int young) {
            int some = 0;
            for (int round = old; round <= young; round++) {
                some |= iceOf(story, round);
            }
            return some;
        }

        int lastingIce(int story, int old, int young) {
            int lasting = WHITE;
            for (int round = old; round <= young; round++) {
                lasting &= iceOf(story, round);
            }
            return lasting;
        }
    }

    /** BEDS and WEIGHTS: what a SLOT keeps. */
    private static final class Ground {
        static final int MOST = 8;
        static final int LAND = 0, SIGNS = 1, OLD = 2, YOUNG = 3, NEEDLE = 4, FIRST = 5, MARKS = 6;

        final int[] marks = new int[MOST * MARKS];
        final int[] weights = {1, 1, 1, 1};
        int beds;
        boolean isKept;

        void mark(int bed, int which, int v) {
            if (within(bed, 0, MOST - 1) && within(which, 0, MARKS - 1)) {
                marks[bed * MARKS + which] = v;
            }
        }

        int markOf(int bed, int which) {
            boolean isMark = within(bed, 0, MOST - 1) && within(which, 0, MARKS - 1);
            return isMark ? marks[bed * MARKS + which] : 0;
        }

        boolean hasSign(int bed, int sign) {
            return (markOf(bed, SIGNS) & sign) != 0;
        }

        boolean isIcy(int bed) {
            return hasSign(bed, 1 | 2);
        }

        boolean liesIn(int bed, int land) {
            return markOf(bed, LAND) == land;
        }

        int slideTenths(int bed) {
            int tenths = hasSign(bed, 8) ? 6 : 2;
            if (hasSign(bed, 2)) {
                tenths--;
            }
            if (hasSign(bed, 4)) {
                tenths--;
            }
            return tenths;
        }

        int icyBeds() {
            int icy = 0;
            for (int bed = 0; bed < beds; bed++) {
                if (isIcy(bed)) {
                    icy++;
                }
            }
            return icy;
        }

        int weightsTogether() {
            int together = 0;
            for (int story = 0; story < STORIES; story++) {
                together += weights[story];
            }
            return together;
        }

        void copyFrom(Ground other) {
            System.arraycopy(other.marks, 0, marks, 0, MOST * MARKS);
            System.arraycopy(other.weights, 0, weights, 0, STORIES);
            beds = other.beds;
        }
    }

    /** What BEDS say of STORIES. */
    private static final class Judge {
        /** WEIGHTS times chances, each of these in hundredths: at most 9 times 100 to the 8th, so that a long holds them. */
        final long[] shares = new long[STORIES];
        final int[] chances = new int[STORIES * Ground.MOST];
        long all;

        static int hundredths(Chronicle c, Ground g, int story, int bed) {
            int old = g.markOf(bed, Ground.OLD);
            int young = g.markOf(bed, Ground.YOUNG);
            int needle = g.markOf(bed, Ground.NEEDLE);
            int first = g.markOf(bed, Ground.FIRST);
            if (!g.isIcy(bed)) {
                boolean lasts = hasIce(c.lastingIce(story, old, young), needle);
                return first * (lasts ? 5 : 10) + (10 - first) * 10;
            }
            int ice = c.someIce(story, old, young);
            int slide = g.slideTenths(bed);
            return first * (hasIce(ice, needle) ? 10 : slide) + (10 - first) * (ice != 0 ? 10 : slide);
        }

        static int explainedBy(Chronicle c, Ground g, int story, int k) {
            int explained = 0;
            for (int bed = 0; bed < g.beds; bed++) {
                int ice = c.someIce(story, g.markOf(bed, Ground.OLD), g.markOf(bed, Ground.YOUNG));
                int band = Math.abs(g.markOf(bed, Ground.NEEDLE) - k);
                if (g.isIcy(bed) && hasIce(ice, band)) {
                    explained++;
                }
            }
            return explained;
        }

        void weigh(Chronicle c, Ground g) {
            for (int story = 0; story < STORIES; story++) {
                for (int bed = 0; bed < g.beds && bed < Ground.MOST; bed++) {
                    chances[story * Ground.MOST + bed] = hundredths(c, g, story, bed);
                }
            }
            weighWithout(g, NONE);
        }

        private void weighWithout(Ground g, int left) {
            all = 0;
            for (int story = 0; story < STORIES; story++) {
                long share = g.weights[story];
                for (int bed = 0; bed < g.beds && bed < Ground.MOST; bed++) {
                    if (bed != left) {
                        share *= chances[story * Ground.MOST + bed];
                    }
                }
                shares[story] = share;
                all += share;
            }
        }

        int greatest() {
            int best = 0;
            for (int story = 1; story < STORIES; story++) {
                if (shares[story] > shares[best]) {
                    best = story;
                }
            }
            return best;
        }

        int bedThatMovesMost(Ground g) {
            int story = greatest();
            int before = millionths(shares[story], all);
            int found = NONE;
            int most = -1;
            for (int bed = 0; bed < g.beds; bed++) {
                weighWithout(g, bed);
                int moved = Math.abs(millionths(shares[story], all) - before);
                if (moved > most) {
                    most = moved;
                    found = bed;
                }
            }
            return found;
        }

        /** Figure by figure, as a million times a share is more than a long holds. */
        private static int millionths(long share, long whole) {
            if (whole <= 0) {
                return 0;
            }
            int cut = (int) (share / whole);
            long rest = share % whole;
            for (int i = 0; i < 6; i++) {
                rest *= 10;
                cut = 10 * cut + (int) (rest / whole);
                rest %= whole;
            }
            return cut;
        }

        int whereToGo(Chronicle c) {
            int found = 0;
            long nearest = all + 1;
            for (int band = 0; band < BANDS; band++) {
                for (int tenth = 0; tenth < 10; tenth++) {
                    long away = Math.abs(2 * shareWithIce(c, band, 10 * tenth) - all);
                    if (away < nearest) {
                        nearest = away;
                        found = 10 * band + tenth;
                    }
                }
            }
            return found;
        }

        private long shareWithIce(Chronicle c, int band, int round) {
            long with = 0;
            for (int story = 0; story < STORIES; story++) {
                if (hasIce(c.iceOf(story, round), band)) {
                    with += shares[story];
                }
            }
            return with;
        }
    }

    /** What the DATES of BEDS allow. */
    private static final class Dates {
        final int[] rounds = new int[Ground.MOST];
        int found;

        static int firstCommonRound(Ground g) {
            int first = NONE;
            int last = ROUNDS;
            for (int bed = 0; bed < g.beds; bed++) {
                if (g.isIcy(bed)) {
                    first = Math.max(first, g.markOf(bed, Ground.OLD));
                    last = Math.min(last, g.markOf(bed, Ground.YOUNG));
                }
            }
            return first <= last ? first : NONE;
        }

        /** A ROUND at the first end of a DATE that has none yet is as late as can be, and meets most of the others. */
        void part(Ground g) {
            found = 0;
            int met = -1;
            for (int i = 0; i < Ground.MOST; i++) {
                int end = firstEndBehind(g, met);
                if (end == NONE) {
                    break;
                }
                rounds[found] = end;
                found++;
                met = end;
            }
        }

        private static int firstEndBehind(Ground g, int met) {
            int end = NONE;
            for (int bed = 0; bed < g.beds; bed++) {
                int young = g.markOf(bed, Ground.YOUNG);
                boolean isUnmet = g.isIcy(bed) && g.markOf(bed, Ground.OLD) > met;
                if (isUnmet && (end == NONE || young < end)) {
                    end = young;
                }
            }
            return end;
        }

        int roundOf(int i) {
            return within(i, 0, found - 1) ? rounds[i] : NONE;
        }

        static boolean isInOrder(Ground g, int land) {
            int earliest = 0;
            for (int bed = 0; bed < g.beds; bed++) {
                if (g.liesIn(bed, land)) {
                    earliest = Math.max(earliest, g.markOf(bed, Ground.OLD));
                    if (earliest > g.markOf(bed, Ground.YOUNG)) {
                        return false;
                    }
                }
            }
            return true;
        }

        /** The earliest ROUND of the BED on which this one lies. */
        static int earliestBelow(Ground g, int land, int bed) {
            int earliest = NONE;
            for (int below = 0; below < bed; below++) {
                if (g.liesIn(below, land)) {
                    earliest = Math.max(earliest, g.markOf(below, Ground.OLD));
                }
            }
            return earliest;
        }

        /** The latest ROUND of a BED: no BED that lies above it may be ahead of it. */
        static int latestFrom(Ground g, int land, int bed) {
            int latest = ROUNDS - 1;
            for (int above = bed; above < g.beds; above++) {
                if (g.liesIn(above, land)) {
                    latest = Math.min(latest, g.markOf(above, Ground.YOUNG));
                }
            }
            return latest;
        }
    }
}
