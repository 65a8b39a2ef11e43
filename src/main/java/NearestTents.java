import java.util.Arrays;

/**
 * A camp of tents on yards in which each says today what the one it hears said yesterday.
 * The face stands first, in the document's order; behind it the classes that do the work.
 */
public final class NearestTents {
    private static final int BEYOND = -1000001;
    private static final int FULL = BEYOND - 1;
    private static final int KIND = BEYOND - 2;
    private static final int NONE = BEYOND - 3;
    private static final int STATE = BEYOND - 4;
    private static final int MISSING = BEYOND - 5;
    private static final int SIZE = BEYOND - 6;
    private static final int FINDINGS = 7;

    private static final int TENT = 0;
    private static final int ELDERLY = 1;
    private static final int PROPHET = 2;
    private static final int MUTE = 3;
    private static final int DOUBTING = 4;
    private static final int CONTRARY = 5;
    private static final int FARSIGHTED = 6;
    private static final int KINDS = 7;
    /** By kind the kind that it stands under; -1: none. */
    private static final int[] KIND_ABOVE = {-1, 0, 0, 2, 1, 0, 5};

    private static final int NOBODY = -1;
    private static final int MOST_TENTS = 10;
    private static final int SAYINGS = 1 << MOST_TENTS;
    private static final int SIDE = 12;
    private static final int YARDS = SIDE * SIDE;
    /** More than any FAR, and more than there are tents. */
    private static final int ENDLESS = 1000000;
    private static final int LAST_DAY = 999999999;
    private static final int MOST_DAYS_AT_ONCE = 100000;
    private static final int MOST_DAYS_AHEAD = 999999;
    private static final int MOST_DAYS_WEIGHED = 60;
    private static final int MOST_TIMES_DRAWN = 12;
    private static final int MOST_BYTES = 120;
    private static final int SPOTS = 10;
    private static final int SHEETS = 4;
    private static final int MOST_NUMBERS = 40;

    /**
     * A move as a number: the tent times MOVE_TENT, and the yard. On top of it, times MOVE_TOP, stands
     * what is asked along with it: how FAR it is, or how many such moves there are; 0: there is none.
     */
    private static final int MOVE_TENT = 1000;
    private static final int MOVE_TOP = 100000;

    private final Camp camp = new Camp();
    private final Camp kept = new Camp();
    private final Ears ears = new Ears(camp);
    private final Walk walk = new Walk(ears);
    private final Trials trials = new Trials(camp);
    private final Tape tape = new Tape();
    private final Sheet[] sheets = new Sheet[SHEETS];
    private final int[] found = new int[FINDINGS];
    private boolean isKept;

    public NearestTents() {
        for (int s = 0; s < SHEETS; s++) {
            sheets[s] = new Sheet();
        }
    }

    // ---- tents

    public int tent(int kind, int x, int y) {
        if (!isKind(kind) || !isYard(x, y)) {
            return finding(BEYOND);
        }
        if (camp.tentOn(yardOf(x, y)) != NOBODY) {
            return finding(STATE);
        }
        if (camp.tents >= MOST_TENTS) {
            return finding(FULL);
        }
        return camp.pitch(kind, yardOf(x, y), 0);
    }

    public int of(int tent, int what) {
        if (!camp.has(tent)) {
            return finding(BEYOND);
        }
        ears.listen();
        switch (what) {
            case 0:
                return camp.kinds[tent];
            case 1:
                return camp.yards[tent] % SIDE;
            case 2:
                return camp.yards[tent] / SIDE;
            case 3:
                return camp.wordOf(tent);
            case 4:
                return ears.hears[tent];
            case 5:
                return ears.willSay(tent, camp.said);
            case 6:
                return ears.lineOf(tent);
            case 7:
                return ears.followersOf(tent);
            default:
                return finding(BEYOND);
        }
    }

    public int change(int tent, int what, int v) {
        if (!camp.has(tent)) {
            return finding(BEYOND);
        }
        if (what == 0 && isKind(v)) {
            int was = camp.kinds[tent];
            camp.kinds[tent] = v;
            return was;
        }
        if (what == 3 && isBit(v)) {
            int was = camp.wordOf(tent);
            camp.giveWord(tent, v);
            return was;
        }
        return finding(BEYOND);
    }

    public int move(int tent, int x, int y) {
        if (!camp.has(tent) || !isYard(x, y)) {
            return finding(BEYOND);
        }
        int yard = yardOf(x, y);
        if (!camp.mayStand(tent, yard)) {
            return finding(STATE);
        }
        int was = camp.apart(camp.yards[tent], yard);
        camp.yards[tent] = yard;
        return was;
    }

    public int wall(int what, int v) {
        if (what == 0 && isSide(v)) {
            int was = camp.wall;
            camp.wall = v;
            return was;
        }
        if (what == 1 && isSide(v)) {
            int was = camp.bridge;
            camp.bridge = v;
            return was;
        }
        if (what == 2 && isBit(v)) {
            int was = camp.counted ? 1 : 0;
            camp.counted = v == 1;
            return was;
        }
        return finding(BEYOND);
    }

    public int on(int x, int y) {
        if (!isYard(x, y)) {
            return finding(BEYOND);
        }
        int tent = camp.tentOn(yardOf(x, y));
        return tent == NOBODY ? finding(NONE) : tent;
    }

    public int far(int one, int other) {
        if (!camp.has(one) || !camp.has(other)) {
            return finding(BEYOND);
        }
        return camp.apart(camp.yards[one], camp.yards[other]);
    }

    public int nearest(int tent) {
        if (!camp.has(tent)) {
            return finding(BEYOND);
        }
        ears.listen();
        return ears.near[tent] == NOBODY ? finding(NONE) : ears.near[tent];
    }

    public int hearing(int tent) {
        if (!camp.has(tent)) {
            return finding(BEYOND);
        }
        ears.listen();
        return ears.hearersOf(tent);
    }

    // ---- days

    public int days(int n) {
        if (!isFrom(1, n, MOST_DAYS_AT_ONCE)) {
            return finding(BEYOND);
        }
        if (n > LAST_DAY - camp.day) {
            return finding(STATE);
        }
        ears.listen();
        camp.said = ears.saidAfter(camp.said, n);
        camp.day += n;
        return camp.vote();
    }

    public int now(int what) {
        ears.listen();
        switch (what) {
            case 0:
                return camp.day;
            case 1:
                return camp.said;
            case 2:
                return camp.vote();
            case 3:
                return ears.countPairs();
            case 4:
                return ears.ofPairs();
            case 5:
                return ears.unheard();
            case 6:
                return ears.longestLine();
            default:
                return finding(BEYOND);
        }
    }

    public int says(int tent, int n) {
        if (!camp.has(tent) || !isFrom(0, n, MOST_DAYS_AHEAD)) {
            return finding(BEYOND);
        }
        ears.listen();
        return ears.saidAfter(camp.said, n) >> tent & 1;
    }

    public int saying(int n) {
        if (!isFrom(0, n, MOST_DAYS_AHEAD)) {
            return finding(BEYOND);
        }
        ears.listen();
        return ears.saidAfter(camp.said, n);
    }

    public int settles() {
        walk.go();
        return walk.settled;
    }

    public int circle() {
        walk.go();
        return walk.round;
    }

    public int mind() {
        walk.go();
        if (camp.tents == 0 || walk.lastMixed >= walk.settled) {
            return finding(NONE);
        }
        return walk.lastMixed + 1;
    }

    // ---- moves

    public int least(int n) {
        if (!isFrom(1, n, MOST_DAYS_WEIGHED)) {
            return finding(BEYOND);
        }
        int least = trials.leastMove(n);
        return least == NOBODY ? finding(NONE) : least / MOVE_TOP;
    }

    public int whom(int n) {
        if (!isFrom(1, n, MOST_DAYS_WEIGHED)) {
            return finding(BEYOND);
        }
        int least = trials.leastMove(n);
        return least < MOVE_TOP ? finding(NONE) : least % MOVE_TOP;
    }

    public int place() {
        if (camp.tents >= MOST_TENTS) {
            return finding(STATE);
        }
        return trials.bestPlace() % MOVE_TENT;
    }

    public int leads() {
        if (camp.tents >= MOST_TENTS) {
            return finding(STATE);
        }
        return trials.bestPlace() / MOVE_TENT;
    }

    public int changed(int tent, int x, int y) {
        if (!camp.has(tent) || !isYard(x, y)) {
            return finding(BEYOND);
        }
        if (!camp.mayStand(tent, yardOf(x, y))) {
            return finding(STATE);
        }
        return trials.changedBy(tent, yardOf(x, y));
    }

    public int still(int tent) {
        if (!camp.has(tent)) {
            return finding(BEYOND);
        }
        return trials.stillYards(tent);
    }

    public int key() {
        if (camp.tents == 0) {
            return finding(NONE);
        }
        return trials.keyTent();
    }

    public int leader() {
        if (camp.tents == 0) {
            return finding(NONE);
        }
        ears.listen();
        return ears.mostFollowed();
    }

    public int walled() {
        return trials.hearingOtherByWall();
    }

    public int law(int n) {
        if (!isFrom(1, n, MOST_DAYS_WEIGHED)) {
            return finding(BEYOND);
        }
        return trials.bestKind(n);
    }

    public int heard(int n) {
        if (!isFrom(1, n, MOST_DAYS_WEIGHED)) {
            return finding(BEYOND);
        }
        if (camp.tents == 0) {
            return finding(NONE);
        }
        ears.listen();
        return ears.mostHeard(n);
    }

    // ---- books

    public int follows(int tent, int before) {
        if (!camp.has(tent) || !camp.isSet(before)) {
            return finding(BEYOND);
        }
        int saidTheSame = camp.wordOf(tent) == 1 ? before : camp.all() & ~before;
        return saidTheSame & ~(1 << tent);
    }

    public int moves(int said, int d) {
        if (!camp.isSet(said) || !isFrom(0, d, 2)) {
            return finding(BEYOND);
        }
        return trials.explainingMoves(said, d) / MOVE_TOP;
    }

    public int moved(int said, int d) {
        if (!camp.isSet(said) || !isFrom(0, d, 2)) {
            return finding(BEYOND);
        }
        int moves = trials.explainingMoves(said, d);
        return moves < MOVE_TOP ? finding(NONE) : moves % MOVE_TOP;
    }

    public int strew(int n) {
        if (!isFrom(1, n, MOST_TIMES_DRAWN)) {
            return finding(BEYOND);
        }
        if (camp.tents == 0) {
            return finding(STATE);
        }
        for (int time = 0; time < n; time++) {
            int tent = camp.draw() % camp.tents;
            camp.stray(tent);
        }
        ears.listen();
        return ears.countPairs();
    }

    public int camps(int n) {
        if (!isFrom(1, n, MOST_TIMES_DRAWN)) {
            return finding(BEYOND);
        }
        if (camp.tents == 0) {
            return finding(STATE);
        }
        return trials.pairsOfCamps(n);
    }

    public int seed(int v) {
        int was = camp.z;
        camp.z = v;
        return was;
    }

    // ---- texts

    public int feed(int bytes, int n) {
        if (!isFrom(1, n, 4)) {
            return finding(BEYOND);
        }
        if (n > MOST_BYTES - tape.size) {
            return finding(FULL);
        }
        tape.put(bytes, n);
        return tape.size;
    }

    public int wipe() {
        int had = tape.size;
        tape.size = 0;
        return had;
    }

    public int text() {
        int answer = trials.read(tape);
        tape.size = 0;
        return answer;
    }

    // ---- spots, sheets

    public int hold(int spot, int tent) {
        if (!isSpot(spot) || tent != NOBODY && !camp.has(tent)) {
            return finding(BEYOND);
        }
        camp.spots[spot] = tent;
        return 1;
    }

    public int as(int spot, int kind) {
        if (!isSpot(spot) || !isKind(kind)) {
            return finding(BEYOND);
        }
        int tent = camp.spots[spot];
        if (!camp.has(tent)) {
            return finding(MISSING);
        }
        return isUnder(camp.kinds[tent], kind) ? tent : finding(KIND);
    }

    public int sheet(int s, int bits, int n) {
        if (!isSheet(s) || bits != 0 && bits != 8 && bits != 16 && bits != 32) {
            return finding(BEYOND);
        }
        if (n < 0) {
            return finding(SIZE);
        }
        if (n > MOST_NUMBERS) {
            return finding(BEYOND);
        }
        sheets[s].layOut(bits, n);
        return sheets[s].size;
    }

    public int write(int s, int i, int v) {
        if (!isSheet(s)) {
            return finding(BEYOND);
        }
        if (sheets[s].isMissing()) {
            return finding(MISSING);
        }
        if (i < 0 || i >= sheets[s].size) {
            return finding(BEYOND);
        }
        sheets[s].set(i, v);
        return 1;
    }

    public int copy(int s, int from, int t, int to, int n) {
        if (!isSheet(s) || !isSheet(t)) {
            return finding(BEYOND);
        }
        if (sheets[s].isMissing() || sheets[t].isMissing()) {
            return finding(MISSING);
        }
        if (sheets[s].bits != sheets[t].bits) {
            return finding(KIND);
        }
        if (!sheets[s].hasFrom(from, n) || !sheets[t].hasFrom(to, n)) {
            return finding(BEYOND);
        }
        System.arraycopy(sheets[s].numbers, from, sheets[t].numbers, to, n);
        return n;
    }

    public int load(int s) {
        if (!isSheet(s)) {
            return finding(BEYOND);
        }
        if (sheets[s].isMissing()) {
            return finding(MISSING);
        }
        int came = 0;
        while (came < sheets[s].size && came < camp.tents && isBit(sheets[s].numbers[came])) {
            camp.giveWord(came, sheets[s].numbers[came]);
            came++;
        }
        return came;
    }

    public int judge(int s) {
        if (!isSheet(s)) {
            return finding(BEYOND);
        }
        if (sheets[s].isMissing()) {
            return finding(MISSING);
        }
        ears.listen();
        int said = camp.said;
        for (int i = 0; i < sheets[s].size; i++) {
            said = ears.nextSaid(said);
            if (sheets[s].numbers[i] != Integer.bitCount(said)) {
                return 1 + i;
            }
        }
        return 0;
    }

    // ---- images

    public int image() {
        kept.become(camp);
        isKept = true;
        return 1;
    }

    public int undo() {
        if (!isKept) {
            return finding(NONE);
        }
        camp.become(kept);
        return camp.day;
    }

    public int tear() {
        int was = isKept ? 1 : 0;
        isKept = false;
        return was;
    }

    public int count(int what) {
        switch (what) {
            case 0:
                return camp.day;
            case 1:
                return camp.tents;
            case 2:
                return camp.vote();
            case 3:
                return camp.wall;
            case 4:
                return camp.bridge;
            case 5:
                return tape.size;
            case 6:
                return camp.z;
            case 7:
                return camp.countHolding();
            default:
                return finding(BEYOND);
        }
    }

    public int status(int which) {
        if (which == -1) {
            int all = 0;
            for (int i = 0; i < FINDINGS; i++) {
                all += found[i];
            }
            return all;
        }
        return isFrom(0, which, FINDINGS - 1) ? found[which] : finding(BEYOND);
    }

    private int finding(int answer) {
        int which = BEYOND - answer;
        if (isFrom(0, which, FINDINGS - 1)) {
            found[which]++;
        }
        return answer;
    }

    private static boolean isFrom(int low, int v, int high) {
        return v >= low && v <= high;
    }

    private static boolean isBit(int v) {
        return isFrom(0, v, 1);
    }

    private static boolean isKind(int v) {
        return isFrom(0, v, KINDS - 1);
    }

    private static boolean isSide(int v) {
        return isFrom(0, v, SIDE - 1);
    }

    private static boolean isYard(int x, int y) {
        return isSide(x) && isSide(y);
    }

    private static boolean isSpot(int v) {
        return isFrom(0, v, SPOTS - 1);
    }

    private static boolean isSheet(int v) {
        return isFrom(0, v, SHEETS - 1);
    }

    private static int yardOf(int x, int y) {
        return SIDE * y + x;
    }

    /** Whether a kind is another one or stands under it, however far. */
    private static boolean isUnder(int kind, int above) {
        int at = kind;
        for (int step = 0; step < KINDS && isKind(at); step++) {
            if (at == above) {
                return true;
            }
            at = KIND_ABOVE[at];
        }
        return false;
    }

    /** All that an image keeps. There are at most MOST_TENTS tents, and spots hold tents that there are. */
    private static final class Camp {
        final int[] kinds = new int[MOST_TENTS];
        final int[] yards = new int[MOST_TENTS];
        final int[] spots = new int[SPOTS];
        int tents;
        int said;
        int wall;
        int bridge;
        boolean counted;
        int day;
        int z;

        Camp() {
            counted = true;
            z = 1;
            Arrays.fill(spots, NOBODY);
        }

        void become(Camp other) {
            System.arraycopy(other.kinds, 0, kinds, 0, MOST_TENTS);
            System.arraycopy(other.yards, 0, yards, 0, MOST_TENTS);
            System.arraycopy(other.spots, 0, spots, 0, SPOTS);
            tents = other.tents;
            said = other.said;
            wall = other.wall;
            bridge = other.bridge;
            counted = other.counted;
            day = other.day;
            z = other.z;
        }

        boolean has(int tent) {
            return tent >= 0 && tent < tents;
        }

        int all() {
            return (1 << tents) - 1;
        }

        boolean isSet(int bits) {
            return (bits & ~all()) == 0;
        }

        int vote() {
            return Integer.bitCount(said);
        }

        int wordOf(int tent) {
            return said >> tent & 1;
        }

        void giveWord(int tent, int word) {
            said = said & ~(1 << tent) | word << tent;
        }

        int tentOn(int yard) {
            for (int i = 0; i < tents; i++) {
                if (yards[i] == yard) {
                    return i;
                }
            }
            return NOBODY;
        }

        /** Whether no OTHER tent is on a yard: its own is no hindrance. */
        boolean mayStand(int tent, int yard) {
            int there = tentOn(yard);
            return there == NOBODY || there == tent;
        }

        int pitch(int kind, int yard, int word) {
            if (tents >= MOST_TENTS) {
                return NOBODY;
            }
            int tent = tents;
            tents++;
            kinds[tent] = kind;
            yards[tent] = yard;
            giveWord(tent, word);
            return tent;
        }

        /**
         * Takes a tent away, where it only matters who hears whom: those behind it move up, which
         * leaves who is elder as it was; what they say stays behind.
         */
        void strike(int tent) {
            if (!has(tent)) {
                return;
            }
            for (int i = tent; i < tents - 1; i++) {
                kinds[i] = kinds[i + 1];
                yards[i] = yards[i + 1];
            }
            tents--;
        }

        /** How FAR two yards are. */
        int apart(int one, int other) {
            int x = one % SIDE;
            int y = one / SIDE;
            int otherX = other % SIDE;
            int otherY = other / SIDE;
            if (counted && x < wall != otherX < wall) {
                int steps = Math.abs(x - otherX) + Math.abs(y - bridge) + Math.abs(otherY - bridge);
                return steps * steps;
            }
            return (x - otherX) * (x - otherX) + (y - otherY) * (y - otherY);
        }

        int draw() {
            z = z * 1103515245 + 12345;
            return z >>> 8;
        }

        /** A tent goes to a drawn yard; the draw is made even if it has to stay. */
        void stray(int tent) {
            int yard = draw() % YARDS;
            if (has(tent) && mayStand(tent, yard)) {
                yards[tent] = yard;
            }
        }

        int countHolding() {
            int holding = 0;
            for (int i = 0; i < SPOTS; i++) {
                if (spots[i] != NOBODY) {
                    holding++;
                }
            }
            return holding;
        }
    }

    /** Who hears whom in a camp, as it was when listen() was called last, and what follows from it. */
    private static final class Ears {
        final Camp camp;
        final int[] hears = new int[MOST_TENTS];
        final int[] near = new int[MOST_TENTS];
        private final int[] gaps = new int[MOST_TENTS * MOST_TENTS];

        Ears(Camp camp) {
            this.camp = camp;
        }

        void listen() {
            for (int i = 0; i < camp.tents; i++) {
                measure(i, i);
            }
            hearAll();
        }

        /** As listen(), where one tent alone has moved since: its gaps alone are new. */
        void listenAgain(int tent) {
            if (camp.has(tent)) {
                measure(tent, camp.tents);
                hearAll();
            }
        }

        private void measure(int tent, int below) {
            for (int i = 0; i < below; i++) {
                int gap = camp.apart(camp.yards[tent], camp.yards[i]);
                gaps[MOST_TENTS * tent + i] = gap;
                gaps[MOST_TENTS * i + tent] = gap;
            }
        }

        private void hearAll() {
            for (int i = 0; i < camp.tents; i++) {
                near[i] = nearestBelow(i, camp.tents);
                hears[i] = whomHeard(i);
            }
        }

        private int whomHeard(int tent) {
            switch (camp.kinds[tent]) {
                case ELDERLY:
                case DOUBTING:
                    return nearestBelow(tent, tent);
                case FARSIGHTED:
                    return farthest(tent);
                default:
                    return near[tent];
            }
        }

        private int nearestBelow(int tent, int below) {
            int best = NOBODY;
            int bestGap = ENDLESS;
            for (int i = 0; i < below; i++) {
                int gap = gaps[MOST_TENTS * tent + i];
                if (i != tent && gap < bestGap) {
                    best = i;
                    bestGap = gap;
                }
            }
            return best;
        }

        private int farthest(int tent) {
            int best = NOBODY;
            int bestGap = -1;
            for (int i = 0; i < camp.tents; i++) {
                int gap = gaps[MOST_TENTS * tent + i];
                if (i != tent && gap > bestGap) {
                    best = i;
                    bestGap = gap;
                }
            }
            return best;
        }

        int willSay(int tent, int said) {
            int own = said >> tent & 1;
            int kind = camp.kinds[tent];
            if (kind == PROPHET) {
                return 1;
            }
            if (kind == MUTE || hears[tent] == NOBODY) {
                return own;
            }
            int word = said >> hears[tent] & 1;
            if (kind == CONTRARY || kind == FARSIGHTED) {
                return 1 - word;
            }
            if (kind == DOUBTING && near[tent] != NOBODY && (said >> near[tent] & 1) != word) {
                return own;
            }
            return word;
        }

        int nextSaid(int said) {
            int next = 0;
            for (int i = 0; i < camp.tents; i++) {
                next |= willSay(i, said) << i;
            }
            return next;
        }

        /**
         * What is said n days after something was. A saying is marked after 1, 2, 4, .. days; when it
         * comes again, whole circles are left out, so that no day however far ahead takes long.
         */
        int saidAfter(int said, int n) {
            int at = said;
            int marked = said;
            int since = 0;
            int span = 1;
            int left = n;
            while (left > 0) {
                at = nextSaid(at);
                left--;
                since++;
                if (at == marked) {
                    left %= since;
                } else if (since >= span) {
                    marked = at;
                    since = 0;
                    span *= 2;
                }
            }
            return at;
        }

        boolean isOfPair(int tent) {
            int other = hears[tent];
            return other != NOBODY && hears[other] == tent;
        }

        int ofPairs() {
            int set = 0;
            for (int i = 0; i < camp.tents; i++) {
                if (isOfPair(i)) {
                    set |= 1 << i;
                }
            }
            return set;
        }

        int countPairs() {
            return Integer.bitCount(ofPairs()) / 2;
        }

        int lineOf(int tent) {
            int at = tent;
            for (int step = 0; step <= camp.tents && at != NOBODY; step++) {
                if (isOfPair(at)) {
                    return step;
                }
                at = hears[at];
            }
            return -1;
        }

        int longestLine() {
            int longest = -1;
            for (int i = 0; i < camp.tents; i++) {
                longest = Math.max(longest, lineOf(i));
            }
            return longest;
        }

        int countLined() {
            int lined = 0;
            for (int i = 0; i < camp.tents; i++) {
                if (lineOf(i) >= 0) {
                    lined++;
                }
            }
            return lined;
        }

        int hearersOf(int tent) {
            int set = 0;
            for (int i = 0; i < camp.tents; i++) {
                if (hears[i] == tent) {
                    set |= 1 << i;
                }
            }
            return set;
        }

        int unheard() {
            int set = camp.all();
            for (int i = 0; i < camp.tents; i++) {
                if (hears[i] != NOBODY) {
                    set &= ~(1 << hears[i]);
                }
            }
            return set;
        }

        int followersOf(int tent) {
            int set = 0;
            for (int i = 0; i < camp.tents; i++) {
                if (i != tent && comesTo(i, tent)) {
                    set |= 1 << i;
                }
            }
            return set;
        }

        private boolean comesTo(int from, int tent) {
            int at = hears[from];
            for (int step = 0; step < camp.tents && at != NOBODY; step++) {
                if (at == tent) {
                    return true;
                }
                at = hears[at];
            }
            return false;
        }

        int mostFollowed() {
            int best = NOBODY;
            int most = -1;
            for (int i = 0; i < camp.tents; i++) {
                int followers = Integer.bitCount(followersOf(i));
                if (followers > most) {
                    best = i;
                    most = followers;
                }
            }
            return best;
        }

        int mostHeard(int n) {
            int said = saidAfter(camp.said, n);
            int best = NOBODY;
            int most = -1;
            for (int i = 0; i < camp.tents; i++) {
                int otherwise = saidAfter(camp.said ^ 1 << i, n);
                int others = Integer.bitCount((said ^ otherwise) & ~(1 << i));
                if (others > most) {
                    best = i;
                    most = others;
                }
            }
            return best;
        }
    }

    /** Goes the days ahead until something is said again. */
    private static final class Walk {
        int settled;
        int round;
        /** The last day, of those gone, on which not all said the same; -1: there was none. */
        int lastMixed;
        private final Ears ears;
        private final int[] dayOf = new int[SAYINGS];

        Walk(Ears ears) {
            this.ears = ears;
        }

        void go() {
            ears.listen();
            Arrays.fill(dayOf, -1);
            settled = 0;
            round = 1;
            lastMixed = -1;
            int said = ears.camp.said;
            for (int day = 0; day <= SAYINGS && said >= 0 && said < SAYINGS; day++) {
                if (dayOf[said] >= 0) {
                    settled = dayOf[said];
                    round = day - settled;
                    return;
                }
                dayOf[said] = day;
                if (said != 0 && said != ears.camp.all()) {
                    lastMixed = day;
                }
                said = ears.nextSaid(said);
            }
        }
    }

    /** What would be, were the camp another one: tried on a camp of its own, so that nothing has to be put back. */
    private static final class Trials {
        private final Camp camp;
        private final Camp trial = new Camp();
        private final Ears ears = new Ears(trial);
        private final int[] heardBefore = new int[MOST_TENTS];

        Trials(Camp camp) {
            this.camp = camp;
        }

        private void begin() {
            trial.become(camp);
            ears.listen();
            System.arraycopy(ears.hears, 0, heardBefore, 0, MOST_TENTS);
        }

        private void tryMove(int tent, int yard) {
            if (trial.has(tent)) {
                trial.yards[tent] = yard;
                ears.listenAgain(tent);
            }
        }

        private int hearingOther() {
            int set = 0;
            for (int i = 0; i < trial.tents; i++) {
                if (ears.hears[i] != heardBefore[i]) {
                    set |= 1 << i;
                }
            }
            return set;
        }

        private int voteAfter(int n) {
            return Integer.bitCount(ears.saidAfter(trial.said, n));
        }

        private boolean isWon(int n) {
            return 2 * voteAfter(n) > trial.tents;
        }

        /** The least move, and how FAR it is; 0 if none is needed, NOBODY if none does. */
        int leastMove(int n) {
            begin();
            if (isWon(n)) {
                return 0;
            }
            int best = NOBODY;
            int bestFar = ENDLESS;
            for (int i = 0; i < camp.tents; i++) {
                for (int yard = 0; yard < YARDS; yard++) {
                    int far = camp.apart(camp.yards[i], yard);
                    if (far < bestFar && camp.tentOn(yard) == NOBODY) {
                        tryMove(i, yard);
                        if (isWon(n)) {
                            best = MOVE_TOP * far + MOVE_TENT * i + yard;
                            bestFar = far;
                        }
                    }
                }
                tryMove(i, camp.yards[i]);
            }
            return best;
        }

        /** The yard, and how many followers a new tent has there times MOVE_TENT. */
        int bestPlace() {
            trial.become(camp);
            int tent = trial.pitch(TENT, 0, 0);
            if (tent == NOBODY) {
                return 0;
            }
            ears.listen();
            int best = 0;
            int most = -1;
            for (int yard = 0; yard < YARDS; yard++) {
                if (camp.tentOn(yard) == NOBODY) {
                    tryMove(tent, yard);
                    int followers = Integer.bitCount(ears.followersOf(tent));
                    if (followers > most) {
                        best = yard;
                        most = followers;
                    }
                }
            }
            return MOVE_TENT * Math.max(most, 0) + best;
        }

        int changedBy(int tent, int yard) {
            begin();
            tryMove(tent, yard);
            return hearingOther() & ~(1 << tent);
        }

        int stillYards(int tent) {
            begin();
            int still = 0;
            for (int yard = 0; yard < YARDS; yard++) {
                if (camp.tentOn(yard) == NOBODY) {
                    tryMove(tent, yard);
                    if (hearingOther() == 0) {
                        still++;
                    }
                }
            }
            return still;
        }

        int keyTent() {
            int best = NOBODY;
            int fewest = ENDLESS;
            for (int i = 0; i < camp.tents; i++) {
                trial.become(camp);
                trial.strike(i);
                ears.listen();
                int lined = ears.countLined();
                if (lined < fewest) {
                    best = i;
                    fewest = lined;
                }
            }
            return best;
        }

        int hearingOtherByWall() {
            trial.become(camp);
            trial.counted = true;
            ears.listen();
            System.arraycopy(ears.hears, 0, heardBefore, 0, MOST_TENTS);
            trial.counted = false;
            ears.listen();
            return hearingOther();
        }

        int bestKind(int n) {
            begin();
            int best = 0;
            int most = -1;
            for (int kind = 0; kind < KINDS; kind++) {
                Arrays.fill(trial.kinds, kind);
                ears.listen();
                int vote = voteAfter(n);
                if (vote > most) {
                    best = kind;
                    most = vote;
                }
            }
            return best;
        }

        /** The first move such that a set is what is said next, and how many there are; d 0: all stay. */
        int explainingMoves(int said, int d) {
            begin();
            if (d == 0) {
                return ears.nextSaid(trial.said) == said ? MOVE_TOP : 0;
            }
            int first = 0;
            int ways = 0;
            for (int i = 0; i < camp.tents; i++) {
                for (int yard = 0; yard < YARDS; yard++) {
                    if (isWithin(camp.yards[i], yard, d) && camp.tentOn(yard) == NOBODY) {
                        tryMove(i, yard);
                        if (ears.nextSaid(trial.said) == said) {
                            first = ways == 0 ? MOVE_TENT * i + yard : first;
                            ways++;
                        }
                    }
                }
                tryMove(i, camp.yards[i]);
            }
            return MOVE_TOP * ways + first;
        }

        private static boolean isWithin(int one, int other, int d) {
            return Math.abs(one % SIDE - other % SIDE) <= d && Math.abs(one / SIDE - other / SIDE) <= d;
        }

        int pairsOfCamps(int n) {
            trial.become(camp);
            int pairs = 0;
            for (int time = 0; time < n; time++) {
                for (int i = 0; i < trial.tents; i++) {
                    trial.stray(i);
                }
                ears.listen();
                pairs += ears.countPairs();
            }
            camp.z = trial.z;
            return pairs;
        }

        /** Reads a text; what it tells is so only if it has no fault. */
        int read(Tape tape) {
            trial.become(camp);
            int answer = tape.readText(trial);
            if (answer >= 0) {
                camp.become(trial);
            }
            return answer;
        }
    }

    /** THE TAPE, and the reader of the text on it, which always has one token at hand. */
    private static final class Tape {
        private static final int END = 0;
        private static final int WORD = 1;
        private static final int NUMBER = 2;
        private static final int SIGN = 3;
        private static final int BLANK = 4;
        private static final int STRANGE = 5;
        private static final int TOO_GREAT = 1000;

        int size;
        private final int[] bytes = new int[MOST_BYTES];
        private int start;
        private int behind;
        private int sort;
        private int number;

        void put(int value, int n) {
            for (int i = n - 1; i >= 0 && size < MOST_BYTES; i--) {
                bytes[size] = value >> 8 * i & 255;
                size++;
            }
        }

        /** How many items there are, all of them so in a camp; with a fault -1 less the fault. */
        int readText(Camp camp) {
            behind = 0;
            for (int items = 1; items <= MOST_BYTES; items++) {
                step();
                if (!readItem(camp)) {
                    return -1 - start;
                }
                if (sort == END) {
                    return items;
                }
                if (sort != SIGN) {
                    return -1 - start;
                }
            }
            return -1 - size;
        }

        /** Each of the readers leaves the token behind its item at hand, or the one that can't stand there. */
        private boolean readItem(Camp camp) {
            for (int kind = 0; kind < KINDS; kind++) {
                if (isWord(nameOf(kind))) {
                    return readTent(camp, kind);
                }
            }
            if (isWord("wall")) {
                return readWall(camp);
            }
            boolean counts = isWord("counted");
            if (counts || isWord("free")) {
                camp.counted = counts;
                step();
                return true;
            }
            return false;
        }

        private boolean readTent(Camp camp, int kind) {
            if (camp.tents >= MOST_TENTS) {
                return false;
            }
            step();
            if (!isWord("at")) {
                return false;
            }
            step();
            if (!isSideNumber()) {
                return false;
            }
            int x = number;
            step();
            if (!isSideNumber() || camp.tentOn(yardOf(x, number)) != NOBODY) {
                return false;
            }
            int yard = yardOf(x, number);
            step();
            int word = 0;
            if (isWord("on")) {
                word = 1;
                step();
            }
            camp.pitch(kind, yard, word);
            return true;
        }

        private boolean readWall(Camp camp) {
            step();
            if (!isSideNumber()) {
                return false;
            }
            camp.wall = number;
            step();
            if (!isWord("bridge")) {
                return true;
            }
            step();
            if (!isSideNumber()) {
                return false;
            }
            camp.bridge = number;
            step();
            return true;
        }

        private static String nameOf(int kind) {
            switch (kind) {
                case ELDERLY:
                    return "elderly";
                case PROPHET:
                    return "prophet";
                case MUTE:
                    return "mute";
                case DOUBTING:
                    return "doubting";
                case CONTRARY:
                    return "contrary";
                case FARSIGHTED:
                    return "farsighted";
                default:
                    return "tent";
            }
        }

        private boolean isSideNumber() {
            return sort == NUMBER && number < SIDE;
        }

        private boolean isWord(String word) {
            if (sort != WORD || behind - start != word.length()) {
                return false;
            }
            for (int i = 0; i < word.length() && start + i < MOST_BYTES; i++) {
                if (bytes[start + i] != word.charAt(i)) {
                    return false;
                }
            }
            return true;
        }

        /** Takes the next token to hand; at the end it starts behind the last byte. */
        private void step() {
            while (behind < size && sortAt(behind) == BLANK) {
                behind++;
            }
            start = behind;
            sort = sortAt(start);
            number = 0;
            while (behind < size && behind < MOST_BYTES && sortAt(behind) == sort) {
                if (sort == NUMBER) {
                    number = grown(number, bytes[behind] - '0');
                }
                behind++;
                if (sort == SIGN) {
                    return;
                }
            }
        }

        /** A number of too many digits stays one that is too great, instead of running over. */
        private static int grown(int number, int digit) {
            return number >= TOO_GREAT ? TOO_GREAT : 10 * number + digit;
        }

        private int sortAt(int place) {
            if (place < 0 || place >= size || place >= MOST_BYTES) {
                return END;
            }
            int b = bytes[place];
            if (b >= 'a' && b <= 'z') {
                return WORD;
            }
            if (b >= '0' && b <= '9') {
                return NUMBER;
            }
            return b == ';' ? SIGN : b == ' ' ? BLANK : STRANGE;
        }
    }

    /** A row of numbers, each cut to the sheet's bits when it is set; bits 0: it is missing. */
    private static final class Sheet {
        final int[] numbers = new int[MOST_NUMBERS];
        int bits;
        int size;

        boolean isMissing() {
            return bits == 0;
        }

        void layOut(int newBits, int n) {
            bits = newBits;
            size = newBits == 0 ? 0 : n;
            Arrays.fill(numbers, 0);
        }

        boolean hasFrom(int from, int n) {
            return from >= 0 && n >= 0 && n <= size - from;
        }

        void set(int i, int v) {
            if (i < 0 || i >= size || i >= MOST_NUMBERS) {
                return;
            }
            if (bits == 8) {
                numbers[i] = (byte) v;
            } else if (bits == 16) {
                numbers[i] = (short) v;
            } else {
                numbers[i] = v;
            }
        }
    }
}
