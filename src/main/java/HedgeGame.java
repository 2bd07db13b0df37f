/**
 * Two who cut a hedge: whose cut wins, what the hedge is worth, how long it lasts, how likely WHITE wins by chance,
 * and what the kind of a branch can be by who won. The words in capitals are those of the project's document.
 *
 * <p>Nothing here throws: what a call refuses it answers by one of the constants below.
 */
public final class HedgeGame {
    public static final int NONE = -1, UNKNOWN = -101, OUTSIDE = -102, STATE = -103, FULL = -104, NO_WORTH = -9999;

    private static final int WHITE_SIDE = 0, DARK_SIDE = 1, SIDES = 2;
    private static final int KINDS = 5, ALL_KINDS = 31;
    private static final int PLAIN_BIT = 1, WHITE_BIT = 2, DARK_BIT = 4, TIP_BIT = 16;
    private static final String KIND_LETTERS = "bwdit";

    /** For each KIND the KINDS, as bits, that are such: all are BRANCHES, and a TIP is WHITE, too. */
    private static final int[] SUCH_KINDS = {31, 18, 4, 8, 16};

    private static final int MOST_BRANCHES = 8, MOST_SETS = 256;
    private static final int FIRST_CODE = 32, LAST_CODE = 126, MOST_LETTERS = 26;
    private static final int MOST_CUTS = 999, MOST_EVENS = 30, MOST_SEEN = 6, MOST_GAMES = 40;
    private static final int EVEN_ALREADY = -2;
    private static final int BRANCH_TELLS = 8, GAMES_TELL = 3, COUNTS = 11;

    private final Page page = new Page();
    private final Shape shape = new Shape();
    private final Moment now = new Moment();
    private final Moment kept = new Moment();
    private final Rules rules = new Rules(shape, now);
    private final Outcomes outcomes = new Outcomes(rules);
    private final Lengths lengths = new Lengths(rules, outcomes);
    private final Values values = new Values(rules);
    private final Chances chances = new Chances(rules);
    private final Lottery lottery = new Lottery(rules);
    private boolean isCharted = false;
    private boolean isKept = false;
    private int hedgesRead = 0;
    private int evensDone = 0;

    public HedgeGame() {
    }

    // ---- the hedge

    public int letter(int code) {
        if (code < FIRST_CODE || code > LAST_CODE) {
            return OUTSIDE;
        }
        if (page.size() >= MOST_LETTERS) {
            return FULL;
        }
        page.add((char) code);
        return page.size();
    }

    public int blank() {
        int had = page.size();
        page.wipe();
        return had;
    }

    public int fault() {
        return page.firstWrong();
    }

    public int hedge() {
        if (!page.isWhole()) {
            return STATE;
        }
        shape.readFrom(page);
        now.beginWith(page, shape.number);
        isCharted = false;
        page.wipe();
        isKept = false;
        hedgesRead++;
        return shape.number;
    }

    // ---- branches

    public int branch(int branch, int what) {
        if (isUnknown(branch)) {
            return UNKNOWN;
        }
        switch (what) {
            case 0:
                return now.kinds[branch];
            case 1:
                return shape.on[branch];
            case 2:
                return now.standing >> branch & 1;
            case 3:
                return rules.choices(WHITE_SIDE, now.standing) >> branch & 1;
            case 4:
                return rules.choices(DARK_SIDE, now.standing) >> branch & 1;
            case 5:
                return shape.above[branch];
            case 6:
                chart();
                return sortsOf(branch);
            case 7:
                chart();
                return whomToLetBegin(branch);
            default:
                return OUTSIDE;
        }
    }

    public int as(int branch, int kind) {
        if (isUnknown(branch)) {
            return UNKNOWN;
        }
        if (kind < 0 || kind >= KINDS) {
            return OUTSIDE;
        }
        return (SUCH_KINDS[kind] >> now.kinds[branch] & 1) != 0 ? branch : NONE;
    }

    // ---- what is done

    public int cut(int branch) {
        if (isUnknown(branch)) {
            return UNKNOWN;
        }
        if ((rules.choices(now.turn, now.standing) >> branch & 1) == 0) {
            return STATE;
        }
        if (now.cuts >= MOST_CUTS) {
            return FULL;
        }
        int before = Integer.bitCount(now.standing);
        now.standing = rules.leftBy(branch, now.standing);
        now.turn = 1 - now.turn;
        now.cuts++;
        return before - Integer.bitCount(now.standing);
    }

    public int grow(int branch) {
        if (isUnknown(branch)) {
            return UNKNOWN;
        }
        if ((now.standing >> branch & 1) != 0 || !shape.hasFooting(branch, now.standing)) {
            return STATE;
        }
        now.standing |= 1 << branch;
        return Integer.bitCount(now.standing);
    }

    public int pass() {
        if (hasNoHedge()) {
            return STATE;
        }
        int was = now.turn;
        now.turn = 1 - was;
        return was;
    }

    public int graft(int branch, int kind) {
        if (isUnknown(branch)) {
            return UNKNOWN;
        }
        if (kind < 0 || kind >= KINDS) {
            return OUTSIDE;
        }
        int was = now.kinds[branch];
        now.kinds[branch] = kind;
        isCharted = false;
        return was;
    }

    // ---- what would be

    public int wins(int begins) {
        if (isNoSide(begins)) {
            return OUTSIDE;
        }
        if (hasNoHedge()) {
            return STATE;
        }
        chart();
        return outcomes.isWonBy(begins, now.standing) ? begins : 1 - begins;
    }

    public int best(int begins) {
        if (isNoSide(begins)) {
            return OUTSIDE;
        }
        if (hasNoHedge()) {
            return STATE;
        }
        chart();
        return lengths.bestCut(begins, now.standing);
    }

    public int lasts(int begins) {
        if (isNoSide(begins)) {
            return OUTSIDE;
        }
        if (hasNoHedge()) {
            return STATE;
        }
        chart();
        return lengths.cutsFrom(begins, now.standing);
    }

    public int worth() {
        if (hasNoHedge()) {
            return STATE;
        }
        chart();
        return values.valueOf(now.standing);
    }

    public int tree(int branch) {
        if (isUnknown(branch)) {
            return UNKNOWN;
        }
        if (shape.on[branch] != NONE) {
            return STATE;
        }
        chart();
        return values.valueOf(now.standing & shape.withAllOn(branch));
    }

    public int even() {
        if (hasNoHedge() || evensDone >= MOST_EVENS) {
            return STATE;
        }
        evensDone++;
        chart();
        return evenBy();
    }

    public int likely(int begins) {
        if (isNoSide(begins)) {
            return OUTSIDE;
        }
        if (hasNoHedge()) {
            return STATE;
        }
        chart();
        return chances.millionths(begins, now.standing);
    }

    // ---- what is seen

    public int see(int branch, int begins, boolean wins) {
        if (isUnknown(branch)) {
            return UNKNOWN;
        }
        if (isNoSide(begins)) {
            return OUTSIDE;
        }
        if (now.seen.size >= MOST_SEEN) {
            return FULL;
        }
        now.seen.add(branch, begins, wins);
        return now.seen.size;
    }

    public int forget() {
        int was = now.seen.size;
        now.seen.size = 0;
        return was;
    }

    public int games(int times, int seed, int what) {
        if (times < 1 || times > MOST_GAMES || seed < 0 || what < 0 || what >= GAMES_TELL) {
            return OUTSIDE;
        }
        if (hasNoHedge()) {
            return STATE;
        }
        lottery.playAll(times, seed, now.standing);
        switch (what) {
            case 0:
                return lottery.whiteWon;
            case 1:
                return lottery.cutsDone;
            default:
                return lottery.seed;
        }
    }

    // ---- what is told of all

    public int image() {
        if (hasNoHedge()) {
            return STATE;
        }
        kept.copyFrom(now);
        isKept = true;
        return now.cuts;
    }

    public int restore() {
        if (!isKept) {
            return STATE;
        }
        now.copyFrom(kept);
        isCharted = false;
        return now.cuts;
    }

    public int count(int what) {
        switch (what) {
            case 0:
                return shape.number;
            case 1:
                return Integer.bitCount(now.standing);
            case 2:
                return now.turn;
            case 3:
                return now.cuts;
            case 4:
                return Integer.bitCount(rules.choices(WHITE_SIDE, now.standing));
            case 5:
                return Integer.bitCount(rules.choices(DARK_SIDE, now.standing));
            case 6:
                return shape.onTheGround();
            case 7:
                return now.seen.size;
            case 8:
                return page.size();
            case 9:
                return hedgesRead;
            case 10:
                return evensDone;
            default:
                return OUTSIDE;
        }
    }

    public long digest() {
        long h = 1283L;
        for (int branch = 0; branch < shape.number; branch++) {
            for (int what = 0; what < BRANCH_TELLS; what++) {
                h = 31L * h + branch(branch, what);
            }
        }
        if (!hasNoHedge()) {
            h = digestOutlook(h);
        }
        for (int place = 0; place < page.size(); place++) {
            h = 31L * h + page.at(place);
        }
        for (int what = 0; what < COUNTS; what++) {
            h = 31L * h + count(what);
        }
        return h;
    }

    private long digestOutlook(long start) {
        long h = start;
        for (int side = 0; side < SIDES; side++) {
            h = 31L * h + wins(side);
            h = 31L * h + best(side);
            h = 31L * h + lasts(side);
            h = 31L * h + likely(side);
        }
        h = 31L * h + worth();
        for (int branch = 0; branch < shape.number; branch++) {
            if (shape.on[branch] == NONE) {
                h = 31L * h + tree(branch);
            }
        }
        return h;
    }

    private boolean hasNoHedge() {
        return shape.number == 0;
    }

    private boolean isUnknown(int branch) {
        return branch < 0 || branch >= shape.number;
    }

    private static boolean isNoSide(int begins) {
        return begins != WHITE_SIDE && begins != DARK_SIDE;
    }

    /**
     * Fills the charts, unless they are filled: each tells something of every set that can STAND, by what it tells of
     * the smaller ones. So they outlive cuts and growth, but no change of a KIND.
     */
    private void chart() {
        if (isCharted) {
            return;
        }
        for (int i = 0; i < shape.setCount; i++) {
            int set = shape.sets[i];
            int whites = rules.choices(WHITE_SIDE, set);
            int darks = rules.choices(DARK_SIDE, set);
            outcomes.enter(WHITE_SIDE, set);
            outcomes.enter(DARK_SIDE, set);
            lengths.enter(WHITE_SIDE, set, whites);
            lengths.enter(DARK_SIDE, set, darks);
            values.enter(set, whites, darks);
            chances.enter(WHITE_SIDE, set, whites);
            chances.enter(DARK_SIDE, set, darks);
        }
        isCharted = true;
    }

    /** Where a chart tells of a set, if it tells one thing for each side to begin. */
    private static int place(int side, int set) {
        return side * MOST_SETS + set;
    }

    private int evenBy() {
        int standing = now.standing;
        if (!outcomes.isWonBy(WHITE_SIDE, standing) && !outcomes.isWonBy(DARK_SIDE, standing)) {
            return EVEN_ALREADY;
        }
        // Its own KIND is never found here: the hedge as it is has just been seen not to be even.
        for (int branch = 0; branch < shape.number; branch++) {
            int uneven = outcomes.winningKinds(WHITE_SIDE, branch, standing)
                    | outcomes.winningKinds(DARK_SIDE, branch, standing);
            for (int kind = 0; kind < KINDS; kind++) {
                if ((uneven >> kind & 1) == 0) {
                    return 10 * branch + kind;
                }
            }
        }
        return NONE;
    }

    private int sortsOf(int branch) {
        int sorts = ALL_KINDS;
        for (int i = 0; i < now.seen.size; i++) {
            if (now.seen.branches[i] == branch) {
                int winning = outcomes.winningKinds(now.seen.beginners[i], branch, now.standing);
                sorts &= now.seen.won[i] ? winning : ~winning;
            }
        }
        return sorts;
    }

    private int whomToLetBegin(int branch) {
        int sorts = sortsOf(branch);
        if (sorts == 0) {
            return NONE;
        }
        int byWhite = mostLeft(sorts, outcomes.winningKinds(WHITE_SIDE, branch, now.standing));
        int byDark = mostLeft(sorts, outcomes.winningKinds(DARK_SIDE, branch, now.standing));
        return byDark < byWhite ? DARK_SIDE : WHITE_SIDE;
    }

    private static int mostLeft(int sorts, int winning) {
        return Math.max(Integer.bitCount(sorts & winning), Integer.bitCount(sorts & ~winning));
    }

    /** THE PAGE: letters that may be a HEDGE, three to a BRANCH (the last one has no comma). */
    private static final class Page {
        private static final int LONGEST_HEDGE = 23;

        private final char[] letters = new char[MOST_LETTERS];
        private int length = 0;

        Page() {
        }

        int size() {
            return length;
        }

        void add(char letter) {
            if (length < MOST_LETTERS) {
                letters[length] = letter;
                length++;
            }
        }

        void wipe() {
            length = 0;
        }

        char at(int place) {
            return place >= 0 && place < length ? letters[place] : 0;
        }

        int firstWrong() {
            for (int place = 0; place < length; place++) {
                if (!fits(place)) {
                    return place;
                }
            }
            return length;
        }

        boolean isWhole() {
            return length % 3 == 2 && firstWrong() == length;
        }

        int branches() {
            return (length + 1) / 3;
        }

        int kindAt(int branch) {
            return Math.max(0, KIND_LETTERS.indexOf(at(3 * branch)));
        }

        int groundAt(int branch) {
            char told = at(3 * branch + 1);
            return told >= '0' && told < '0' + branch ? told - '0' : NONE;
        }

        private boolean fits(int place) {
            if (place >= LONGEST_HEDGE) {
                return false;
            }
            char letter = at(place);
            switch (place % 3) {
                case 0:
                    return KIND_LETTERS.indexOf(letter) >= 0;
                case 1:
                    return letter == '-' || letter >= '0' && letter < '0' + place / 3;
                default:
                    return letter == ',';
            }
        }
    }

    /** What is ON what: it stays until another HEDGE is read. A set of BRANCHES is told as bits. */
    private static final class Shape {
        private int number = 0;
        private final int[] on = new int[MOST_BRANCHES];
        /** Of each BRANCH all that is ON it, straight, or by others. */
        private final int[] above = new int[MOST_BRANCHES];
        /** The sets that can STAND: with each BRANCH that ON which it is; a part of a set comes ahead of it. */
        private final int[] sets = new int[MOST_SETS];
        private int setCount = 0;

        Shape() {
        }

        void readFrom(Page page) {
            number = Math.min(page.branches(), MOST_BRANCHES);
            for (int branch = 0; branch < number; branch++) {
                on[branch] = page.groundAt(branch);
                above[branch] = 0;
            }
            // What is ON a BRANCH has a greater number: downwards, each is whole when it is handed on.
            for (int branch = number - 1; branch > 0; branch--) {
                int ground = on[branch];
                if (ground >= 0 && ground < branch) {
                    above[ground] |= withAllOn(branch);
                }
            }
            findSets();
        }

        int withAllOn(int branch) {
            return above[branch] | 1 << branch;
        }

        boolean hasFooting(int branch, int set) {
            return on[branch] == NONE || (set >> on[branch] & 1) != 0;
        }

        int onTheGround() {
            int found = 0;
            for (int branch = 0; branch < number; branch++) {
                if (on[branch] == NONE) {
                    found++;
                }
            }
            return found;
        }

        private void findSets() {
            setCount = 0;
            for (int set = 0; set < 1 << number; set++) {
                if (canStand(set)) {
                    sets[setCount] = set;
                    setCount++;
                }
            }
        }

        private boolean canStand(int set) {
            for (int branch = 0; branch < number; branch++) {
                if ((set >> branch & 1) != 0 && !hasFooting(branch, set)) {
                    return false;
                }
            }
            return true;
        }
    }

    /** What an IMAGE keeps. */
    private static final class Moment {
        private final int[] kinds = new int[MOST_BRANCHES];
        private int standing = 0;
        private int turn = WHITE_SIDE;
        private int cuts = 0;
        private final Seen seen = new Seen();

        Moment() {
        }

        void beginWith(Page page, int number) {
            for (int branch = 0; branch < number; branch++) {
                kinds[branch] = page.kindAt(branch);
            }
            standing = (1 << number) - 1;
            turn = WHITE_SIDE;
            cuts = 0;
            seen.size = 0;
        }

        void copyFrom(Moment other) {
            System.arraycopy(other.kinds, 0, kinds, 0, MOST_BRANCHES);
            standing = other.standing;
            turn = other.turn;
            cuts = other.cuts;
            seen.copyFrom(other.seen);
        }
    }

    /** What is SEEN, in the order in which it was. */
    private static final class Seen {
        private int size = 0;
        private final int[] branches = new int[MOST_SEEN];
        private final int[] beginners = new int[MOST_SEEN];
        private final boolean[] won = new boolean[MOST_SEEN];

        Seen() {
        }

        void add(int branch, int begins, boolean wins) {
            if (size < MOST_SEEN) {
                branches[size] = branch;
                beginners[size] = begins;
                won[size] = wins;
                size++;
            }
        }

        void copyFrom(Seen other) {
            size = other.size;
            for (int i = 0; i < MOST_SEEN; i++) {
                branches[i] = other.branches[i];
                beginners[i] = other.beginners[i];
                won[i] = other.won[i];
            }
        }
    }

    /** Who may CUT what, and what that leaves. */
    private static final class Rules {
        private final Shape shape;
        private final Moment now;

        Rules(Shape shape, Moment now) {
            this.shape = shape;
            this.now = now;
        }

        /** The KINDS, as bits, that a BRANCH of a set can have for a side to CUT it. */
        int kindsCutBy(int side, int branch, int set) {
            if (side == DARK_SIDE) {
                return PLAIN_BIT | DARK_BIT;
            }
            boolean isBare = (set & shape.above[branch]) == 0;
            return isBare ? PLAIN_BIT | WHITE_BIT | TIP_BIT : PLAIN_BIT | WHITE_BIT;
        }

        /** The BRANCHES of a set that a side may CUT, as bits. */
        int choices(int side, int set) {
            int found = 0;
            for (int branch = 0; branch < shape.number; branch++) {
                if ((set >> branch & 1) != 0 && (kindsCutBy(side, branch, set) >> now.kinds[branch] & 1) != 0) {
                    found |= 1 << branch;
                }
            }
            return found;
        }

        int leftBy(int branch, int set) {
            return set & ~(shape.above[branch] | 1 << branch);
        }
    }

    /**
     * Whether who begins wins, at once for the hedge as it is and for each hedge in which one BRANCH is of some KIND:
     * each of these hedges is one bit of a long, as the same cuts lead all of them from set to set.
     */
    private static final class Outcomes {
        private static final long AS_IT_IS = 1L << KINDS * MOST_BRANCHES;
        private static final long ALL_HEDGES = 2L * AS_IT_IS - 1L;

        private final Rules rules;
        private final long[] won = new long[SIDES * MOST_SETS];

        Outcomes(Rules rules) {
            this.rules = rules;
        }

        boolean isWonBy(int begins, int set) {
            return (won[place(begins, set)] & AS_IT_IS) != 0L;
        }

        /** The KINDS, as bits, that a BRANCH can be of so that who begins wins. */
        int winningKinds(int begins, int branch, int set) {
            return (int) (won[place(begins, set)] >> KINDS * branch) & ALL_KINDS;
        }

        void enter(int side, int set) {
            long found = 0L;
            for (int branch = 0; branch < rules.shape.number; branch++) {
                if ((set >> branch & 1) != 0) {
                    long lost = ~won[place(1 - side, rules.leftBy(branch, set))];
                    found |= hedgesWithCut(side, branch, set) & lost;
                }
            }
            won[place(side, set)] = found;
        }

        private long hedgesWithCut(int side, int branch, int set) {
            int kindsCut = rules.kindsCutBy(side, branch, set);
            long changed = (long) ALL_KINDS << KINDS * branch;
            long found = (long) kindsCut << KINDS * branch;
            if ((kindsCut >> rules.now.kinds[branch] & 1) != 0) {
                found |= ALL_HEDGES & ~changed;
            }
            return found;
        }
    }

    /** How many CUTS there are, if who wins hurries and who loses does not. */
    private static final class Lengths {
        private final Rules rules;
        private final Outcomes outcomes;
        private final int[] cuts = new int[SIDES * MOST_SETS];

        Lengths(Rules rules, Outcomes outcomes) {
            this.rules = rules;
            this.outcomes = outcomes;
        }

        int cutsFrom(int begins, int set) {
            return cuts[place(begins, set)];
        }

        int bestCut(int begins, int set) {
            boolean wins = outcomes.isWonBy(begins, set);
            int choices = rules.choices(begins, set);
            int found = NONE;
            int longest = -1;
            for (int branch = 0; branch < rules.shape.number; branch++) {
                if ((choices >> branch & 1) != 0) {
                    int left = rules.leftBy(branch, set);
                    if (wins && !outcomes.isWonBy(1 - begins, left)) {
                        return branch;
                    }
                    if (cuts[place(1 - begins, left)] > longest) {
                        longest = cuts[place(1 - begins, left)];
                        found = branch;
                    }
                }
            }
            return found;
        }

        void enter(int side, int set, int choices) {
            boolean wins = outcomes.isWonBy(side, set);
            int found = 0;
            for (int branch = 0; branch < rules.shape.number; branch++) {
                if ((choices >> branch & 1) != 0) {
                    int left = rules.leftBy(branch, set);
                    int length = 1 + cuts[place(1 - side, left)];
                    if (!wins) {
                        found = Math.max(found, length);
                    } else if (!outcomes.isWonBy(1 - side, left)) {
                        found = found == 0 ? length : Math.min(found, length);
                    }
                }
            }
            cuts[place(side, set)] = found;
        }
    }

    /** WORTH, as so many of 256: eight BRANCHES need no finer ones than 128ths. */
    private static final class Values {
        private static final int ONE = 256;
        /** Beyond all that eight BRANCHES can be WORTH: it stands for the bound that is missing. */
        private static final int FAR = 1 << 20;

        private final Rules rules;
        private final int[] value = new int[MOST_SETS];

        Values(Rules rules) {
            this.rules = rules;
        }

        int valueOf(int set) {
            return value[set];
        }

        void enter(int set, int whites, int darks) {
            value[set] = simplestOf(set, whites, darks);
        }

        private int simplestOf(int set, int whites, int darks) {
            int low = -FAR;
            int high = FAR;
            for (int branch = 0; branch < rules.shape.number; branch++) {
                if (((whites | darks) >> branch & 1) != 0) {
                    int left = value[rules.leftBy(branch, set)];
                    if (left == NO_WORTH) {
                        return NO_WORTH;
                    }
                    if ((whites >> branch & 1) != 0) {
                        low = Math.max(low, left);
                    }
                    if ((darks >> branch & 1) != 0) {
                        high = Math.min(high, left);
                    }
                }
            }
            return low < high ? simplestBetween(low, high) : NO_WORTH;
        }

        private static int simplestBetween(int low, int high) {
            if (low < 0 && high > 0) {
                return 0;
            }
            // The number is on one side of 0: the bound nearer to 0, then the first steps beyond it, the widest ahead.
            int sign = low >= 0 ? 1 : -1;
            int near = low >= 0 ? low : -high;
            int far = low >= 0 ? high : -low;
            for (int step = ONE; step > 1; step /= 2) {
                int next = (near / step + 1) * step;
                if (next < far) {
                    return sign * next;
                }
            }
            return sign * (near + 1);
        }
    }

    /** How likely WHITE wins, if both CUT by chance. */
    private static final class Chances {
        /**
         * All chances are whole numbers of this: it is the product of the least common multiples of 1 to n for n from 1
         * to 8, and with n BRANCHES that STAND a chance is divided by n at most, with fewer ones to follow.
         */
        private static final long CERTAIN = 182891520000L;
        private static final long MILLION = 1000000L;

        private final Rules rules;
        private final long[] chance = new long[SIDES * MOST_SETS];

        Chances(Rules rules) {
            this.rules = rules;
        }

        int millionths(int begins, int set) {
            return (int) (chance[place(begins, set)] * MILLION / CERTAIN);
        }

        void enter(int side, int set, int choices) {
            int ways = Integer.bitCount(choices);
            if (ways == 0) {
                chance[place(side, set)] = side == DARK_SIDE ? CERTAIN : 0L;
                return;
            }
            long sum = 0L;
            for (int branch = 0; branch < rules.shape.number; branch++) {
                if ((choices >> branch & 1) != 0) {
                    sum += chance[place(1 - side, rules.leftBy(branch, set))];
                }
            }
            chance[place(side, set)] = sum / ways;
        }
    }

    /** GAMES by a SEED: they change nothing of the hedge. */
    private static final class Lottery {
        private static final long SEEDS = 1L << 31;

        private final Rules rules;
        private int seed = 0;
        private int whiteWon = 0;
        private int cutsDone = 0;

        Lottery(Rules rules) {
            this.rules = rules;
        }

        void playAll(int times, int firstSeed, int standing) {
            seed = firstSeed;
            whiteWon = 0;
            cutsDone = 0;
            for (int game = 0; game < times; game++) {
                if (winnerOf(game % SIDES, standing) == WHITE_SIDE) {
                    whiteWon++;
                }
            }
        }

        private int winnerOf(int begins, int standing) {
            int side = begins;
            int set = standing;
            int choices = rules.choices(side, set);
            for (int cut = 0; cut < MOST_BRANCHES && choices != 0; cut++) {
                set = rules.leftBy(drawFrom(choices), set);
                cutsDone++;
                side = 1 - side;
                choices = rules.choices(side, set);
            }
            return 1 - side;
        }

        private int drawFrom(int choices) {
            int rest = draw(Integer.bitCount(choices));
            for (int branch = 0; branch < MOST_BRANCHES; branch++) {
                if ((choices >> branch & 1) != 0) {
                    if (rest == 0) {
                        return branch;
                    }
                    rest--;
                }
            }
            return 0;
        }

        private int draw(int ways) {
            seed = (int) ((1103515245L * seed + 12345L) % SEEDS);
            return ways > 0 ? seed / 65536 % ways : 0;
        }
    }
}
