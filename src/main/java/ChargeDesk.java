/** A toll desk of rules that are made of one another; ../shared/DOC.md says what each call promises. */
public final class ChargeDesk {
    public static final int BAD = -1, NONE = -2, ZERO = -3, INDEX = -4, BAR = -5, TIRED = -6, DEEP = -7;

    private static final int RATE_LIMIT = 8;
    private static final int ROW_LIMIT = 4;
    private static final int ROW_LENGTH_MOST = 8;
    private static final int PLACE_LIMIT = 16;
    private static final int STEPS_MOST = 80;
    private static final int OPEN_MOST = 24;

    private static final int FLAT = 0;
    private static final int RATED = 1;
    private static final int LIVE = 2;
    private static final int BOOKED = 3;
    private static final int JOINED = 4;
    private static final int WHEN = 5;
    private static final int FIXED = 6;
    private static final int FED = 7;
    private static final int GUARDED = 8;
    private static final int CALLED = 9;
    private static final int BARRED = 10;
    private static final int COUNTED = 11;
    private static final int KEPT = 12;

    private static final int SUM = 0;
    private static final int DIFFERENCE = 1;
    private static final int PRODUCT = 2;
    private static final int QUOTIENT = 3;
    private static final int REMAINDER = 4;
    private static final int LESSER = 5;
    private static final int OP_LIMIT = 6;

    private final int[] rates = new int[RATE_LIMIT];
    private final int[][] rows = new int[ROW_LIMIT][0];
    private final Rule[] places = new Rule[PLACE_LIMIT];
    private int made;
    private int steps;
    private int failedAsks;
    /** Why the latest ask gave 0; while one is under way, why what was asked last has failed; 0: it has not. */
    private int failure;

    /**
     * One class for all kinds, told apart by a number: the language allows fewer classes than there are kinds.
     * What a rule was made of never changes; only its count and what it keeps do.
     */
    private static final class Rule {
        final int kind;
        /** The one number of its kind: c of FLAT, the rate of RATED, k of LIVE and CALLED, op, n or m. */
        final int number;
        final int[] row;
        final Rule first;
        final Rule second;
        final Rule third;
        int tally;
        boolean keeps;
        int keptLoad;
        int keptWay;
        long keptValue;

        Rule(int kind, int number, int[] row) {
            this.kind = kind;
            this.number = number;
            this.row = row;
            this.first = null;
            this.second = null;
            this.third = null;
        }

        Rule(int kind, int number, Rule first, Rule second, Rule third) {
            this.kind = kind;
            this.number = number;
            this.row = null;
            this.first = first;
            this.second = second;
            this.third = third;
        }
    }

    public ChargeDesk() {
    }

    // ---- the desk

    public int rate(int k, int v) {
        if (!isBelow(k, RATE_LIMIT)) {
            return BAD;
        }
        rates[k] = v;
        return 1;
    }

    public int fresh(int r, int n) {
        if (!isBelow(r, ROW_LIMIT) || n < 0 || n > ROW_LENGTH_MOST) {
            return BAD;
        }
        // A new array, never the old one emptied: rules that are BOOKED go on with the old one.
        rows[r] = new int[n];
        return 1;
    }

    public int book(int r, int i, int v) {
        if (!isBelow(r, ROW_LIMIT) || !isBelow(i, rows[r].length)) {
            return BAD;
        }
        rows[r][i] = v;
        return 1;
    }

    // ---- rules

    public int flat(int place, int c) {
        if (!isPlace(place)) {
            return BAD;
        }
        return stand(place, new Rule(FLAT, c, null));
    }

    public int rated(int place, int k) {
        if (!isPlace(place) || !isBelow(k, RATE_LIMIT)) {
            return BAD;
        }
        return stand(place, new Rule(RATED, rates[k], null));
    }

    public int live(int place, int k) {
        if (!isPlace(place) || !isBelow(k, RATE_LIMIT)) {
            return BAD;
        }
        return stand(place, new Rule(LIVE, k, null));
    }

    public int booked(int place, int r) {
        if (!isPlace(place) || !isBelow(r, ROW_LIMIT)) {
            return BAD;
        }
        return stand(place, new Rule(BOOKED, 0, rows[r]));
    }

    public int joined(int place, int op, int a, int b) {
        if (!isBelow(op, OP_LIMIT)) {
            return BAD;
        }
        return standOver(place, JOINED, op, a, b, b);
    }

    public int when(int place, int a, int b, int c) {
        return standOver(place, WHEN, 0, a, b, c);
    }

    public int fixed(int place, int a, int n) {
        return standOver(place, FIXED, n, a, a, a);
    }

    public int fed(int place, int a, int b) {
        return standOver(place, FED, 0, a, b, b);
    }

    public int guarded(int place, int a, int b) {
        return standOver(place, GUARDED, 0, a, b, b);
    }

    public int called(int place, int k) {
        if (!isPlace(place) || !isPlace(k)) {
            return BAD;
        }
        return stand(place, new Rule(CALLED, k, null));
    }

    public int barred(int place, int a, int m) {
        return standOver(place, BARRED, m, a, a, a);
    }

    public int counted(int place, int a) {
        return standOver(place, COUNTED, 0, a, a, a);
    }

    public int kept(int place, int a) {
        return standOver(place, KEPT, 0, a, a, a);
    }

    public int put(int from, int to) {
        if (!isPlace(from) || !isPlace(to)) {
            return BAD;
        }
        if (places[from] == null) {
            return NONE;
        }
        places[to] = places[from];
        return 1;
    }

    public int take(int place) {
        if (!isPlace(place)) {
            return BAD;
        }
        if (places[place] == null) {
            return NONE;
        }
        places[place] = null;
        return 1;
    }

    // ---- asking

    public long ask(int place, int w, int d) {
        steps = 0;
        failure = 0;
        if (!isPlace(place)) {
            return fail(BAD);
        }
        // Refused here, though answer() would fail so too: a refused ask has no steps and has not FAILED.
        if (places[place] == null) {
            return fail(NONE);
        }
        long given = answer(places[place], w, d, 0);
        if (failure != 0) {
            failedAsks++;
            return 0;
        }
        return given;
    }

    public int failed() {
        return failure;
    }

    public int same(int a, int b) {
        if (!isPlace(a) || !isPlace(b)) {
            return BAD;
        }
        return places[a] != null && places[a] == places[b] ? 1 : 0;
    }

    public int count(int place) {
        if (!isPlace(place)) {
            return BAD;
        }
        Rule rule = places[place];
        if (rule == null || rule.kind != COUNTED) {
            return NONE;
        }
        return rule.tally;
    }

    public int told(int what) {
        switch (what) {
            case 0:
                return made;
            case 1:
                return steps;
            case 2:
                return failedAsks;
            case 3:
                return takenPlaces();
            default:
                return BAD;
        }
    }

    public int clear() {
        int madeTillNow = made;
        for (int k = 0; k < RATE_LIMIT; k++) {
            rates[k] = 0;
        }
        for (int r = 0; r < ROW_LIMIT; r++) {
            rows[r] = new int[0];
        }
        for (int place = 0; place < PLACE_LIMIT; place++) {
            places[place] = null;
        }
        made = 0;
        steps = 0;
        failedAsks = 0;
        failure = 0;
        return madeTillNow;
    }

    // ---- making

    private static boolean isBelow(int number, int limit) {
        return number >= 0 && number < limit;
    }

    private static boolean isPlace(int place) {
        return isBelow(place, PLACE_LIMIT);
    }

    // A rule brings the number that it was made with: it is looked at again where it is used.

    private int rateNow(int k) {
        return isBelow(k, RATE_LIMIT) ? rates[k] : 0;
    }

    private Rule ruleNow(int place) {
        return isPlace(place) ? places[place] : null;
    }

    private int takenPlaces() {
        int taken = 0;
        for (int place = 0; place < PLACE_LIMIT; place++) {
            if (places[place] != null) {
                taken++;
            }
        }
        return taken;
    }

    private int stand(int place, Rule rule) {
        places[place] = rule;
        made++;
        return made;
    }

    /** Makes a rule that holds others; a kind that holds fewer than three names its last one again. */
    private int standOver(int place, int kind, int number, int a, int b, int c) {
        if (!isPlace(place) || !isPlace(a) || !isPlace(b) || !isPlace(c)) {
            return BAD;
        }
        if (places[a] == null || places[b] == null || places[c] == null) {
            return NONE;
        }
        return stand(place, new Rule(kind, number, places[a], places[b], places[c]));
    }

    // ---- answering: whoever asks a rule looks at failure before using what came

    private long fail(int why) {
        failure = why;
        return 0;
    }

    /** Asks a rule, or a place that has none; open is how many rules are asked and have not given yet. */
    private long answer(Rule rule, int load, int way, int open) {
        if (steps >= STEPS_MOST) {
            return fail(TIRED);
        }
        steps++;
        if (open >= OPEN_MOST) {
            return fail(DEEP);
        }
        if (rule == null) {
            return fail(NONE);
        }
        return answerByKind(rule, load, way, open + 1);
    }

    private long answerByKind(Rule rule, int load, int way, int open) {
        switch (rule.kind) {
            case FLAT:
                return rule.number;
            case RATED:
                return (long) load * rule.number;
            case LIVE:
                return (long) load * rateNow(rule.number);
            case BOOKED:
                return answerBooked(rule, way);
            case JOINED:
                return answerJoined(rule, load, way, open);
            case WHEN:
                return answerWhen(rule, load, way, open);
            case FIXED:
                return answer(rule.first, load, rule.number, open);
            case FED:
                return answerFed(rule, load, way, open);
            case GUARDED:
                return answerGuarded(rule, load, way, open);
            case CALLED:
                return answer(ruleNow(rule.number), load, way, open);
            case BARRED:
                return load > rule.number ? fail(BAR) : answer(rule.first, load, way, open);
            case COUNTED:
                return answerCounted(rule, load, way, open);
            case KEPT:
            default:
                return answerKept(rule, load, way, open);
        }
    }

    private long answerBooked(Rule rule, int way) {
        if (rule.row == null || !isBelow(way, rule.row.length)) {
            return fail(INDEX);
        }
        return rule.row[way];
    }

    private long answerJoined(Rule rule, int load, int way, int open) {
        long left = answer(rule.first, load, way, open);
        if (failure != 0) {
            return 0;
        }
        long right = answer(rule.second, load, way, open);
        if (failure != 0) {
            return 0;
        }
        return combine(rule.number, left, right);
    }

    private long combine(int op, long left, long right) {
        switch (op) {
            case SUM:
                return left + right;
            case DIFFERENCE:
                return left - right;
            case PRODUCT:
                return left * right;
            case QUOTIENT:
                return right == 0 ? fail(ZERO) : left / right;
            case REMAINDER:
                return right == 0 ? fail(ZERO) : left % right;
            case LESSER:
            default:
                return Math.min(left, right);
        }
    }

    private long answerWhen(Rule rule, int load, int way, int open) {
        long test = answer(rule.first, load, way, open);
        if (failure != 0) {
            return 0;
        }
        return answer(test > 0 ? rule.second : rule.third, load, way, open);
    }

    private long answerFed(Rule rule, int load, int way, int open) {
        long feed = answer(rule.second, load, way, open);
        if (failure != 0) {
            return 0;
        }
        return answer(rule.first, (int) feed, way, open);
    }

    private long answerGuarded(Rule rule, int load, int way, int open) {
        long given = answer(rule.first, load, way, open);
        if (failure == 0 || failure == TIRED || failure == DEEP) {
            return given;
        }
        failure = 0;
        return answer(rule.second, load, way, open);
    }

    private long answerCounted(Rule rule, int load, int way, int open) {
        rule.tally++;
        long given = answer(rule.first, load, way, open);
        if (failure != 0) {
            return 0;
        }
        // Read only now: what it asked may, by a CALLED, have asked this rule again.
        return given + rule.tally;
    }

    private long answerKept(Rule rule, int load, int way, int open) {
        if (rule.keeps && rule.keptLoad == load && rule.keptWay == way) {
            return rule.keptValue;
        }
        long given = answer(rule.first, load, way, open);
        if (failure != 0) {
            return 0;
        }
        rule.keeps = true;
        rule.keptLoad = load;
        rule.keptWay = way;
        rule.keptValue = given;
        return given;
    }
}
