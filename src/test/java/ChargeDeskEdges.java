import java.util.function.IntToLongFunction;

/**
 * One method for each sentence of ../shared/DOC.md that names a boundary case, in the document's order; what is
 * printed begins with that sentence. ChargeDeskRefusals has the one on refused calls.
 */
public final class ChargeDeskEdges {
    private static final int MIN = Integer.MIN_VALUE;
    private static final int MAX = Integer.MAX_VALUE;
    private static final int BAD = ChargeDesk.BAD;
    private static final int NONE = ChargeDesk.NONE;
    private static final int ZERO = ChargeDesk.ZERO;
    private static final int INDEX = ChargeDesk.INDEX;
    private static final int BAR = ChargeDesk.BAR;
    private static final int TIRED = ChargeDesk.TIRED;
    private static final int DEEP = ChargeDesk.DEEP;

    private static String sentence = "";
    private static int wrong = 0;

    private static void due(String what, long got, long want) {
        if (got != want) {
            wrong++;
            System.out.println("'" + sentence + "': " + what + " answered " + got + ", due is " + want);
        }
    }

    private static void gives(ChargeDesk x, int place, int w, int d, long want) {
        due("ask(" + place + ", " + w + ", " + d + ")", x.ask(place, w, d), want);
        due("failed() behind ask(" + place + ", " + w + ", " + d + ")", x.failed(), 0);
    }

    private static void fails(ChargeDesk x, int place, int w, int d, int why) {
        due("ask(" + place + ", " + w + ", " + d + ")", x.ask(place, w, d), 0);
        due("failed() behind ask(" + place + ", " + w + ", " + d + ")", x.failed(), why);
    }

    private static void steps(ChargeDesk x, int want) {
        due("STEPS", x.told(1), want);
    }

    /** Calls for the first and the last numbers inside 0 .. last, then for those beyond, which are BAD. */
    private static void insideAndBeyond(String what, int last, long inside, IntToLongFunction call) {
        for (int n : new int[] {0, 1, last - 1, last}) {
            due(what + " " + n, call.applyAsLong(n), inside);
        }
        for (int n : new int[] {-1, last + 1, MIN, MAX}) {
            due(what + " " + n, call.applyAsLong(n), BAD);
        }
    }

    public static void main(String[] args) {
        usedFor512Calls();
        constants();
        rates();
        ratesAtFirst();
        rows();
        rowsUpTo8Places();
        rowsAtFirst();
        places();
        placesOfHeldRules();
        placesAtFirst();
        eachMakingMakesANewRule();
        whoHoldsThatGoesOn();
        givesALongThatWraps();
        countedWraps();
        flat();
        rated();
        live();
        booked();
        bookedIndex();
        joinedOps();
        joinedInOrder();
        joinedSumLessProduct();
        joinedCutTowardZero();
        joinedWhatIsLeft();
        joinedLesser();
        joinedByZero();
        whenAboveZero();
        whenAsksTwo();
        fixed();
        fedLowest32Bits();
        fedOrder();
        guarded();
        guardedButByTiredDeep();
        called();
        calledNone();
        calledNoneIsAskedLikeARule();
        barred();
        counted();
        countedBehindThat();
        keptSame();
        keptInsteadOfWhatWas();
        keptNothingYet();
        stepsFirstToo();
        stepsByEveryAsker();
        tiredIsNoStep();
        tiredAheadOfDeep();
        deepByEveryAsker();
        deepHaveNotGivenYet();
        failsEndsAllThatAsked();
        changedTillThenStays();
        howManyWereMade();
        badHeldPlace();
        noneToHold();
        firstThatACallNames();
        fresh();
        book();
        calledMayHaveNone();
        put();
        take();
        askGivesZero();
        failed();
        same();
        count();
        told();
        toldSteps();
        toldPlaces();
        clear();
        System.out.println(wrong == 0 ? "all answers are as due" : wrong + " answers are not as due");
        if (wrong != 0) {
            System.exit(1);
        }
    }

    // ---- desks

    /** All 16 PLACES have one: FLAT 100 at PLACE 0, FLAT 115 at PLACE 15. */
    private static ChargeDesk full() {
        ChargeDesk x = new ChargeDesk();
        for (int place = 0; place < 16; place++) {
            x.flat(place, 100 + place);
        }
        return x;
    }

    /** What stands at the PLACE gives v, whatever it is asked for; PLACES 14 and 15 are written over. */
    private static void standLong(ChargeDesk x, int place, long v) {
        int low = (int) v;
        x.flat(place, (int) ((v - low) >> 32));
        x.flat(14, 1 << 16);
        x.joined(place, 2, place, 14);
        x.joined(place, 2, place, 14);
        x.flat(15, low);
        x.joined(place, 0, place, 15);
    }

    /** What stands at the PLACE is asked in so many STEPS, itself too, never more than 12 deep, and gives 0. */
    private static void standSpender(ChargeDesk x, int place, int steps) {
        if (steps == 1) {
            x.flat(place, 0);
        } else if (steps % 2 == 0) {
            standSpender(x, place, steps - 1);
            x.barred(place, place, MAX);
        } else {
            standSpender(x, place, (steps - 1) / 2);
            x.joined(place, 0, place, place);
        }
    }

    /** What stands at the PLACE is asked through so many more RULES, each one deeper and one STEP. */
    private static void standChain(ChargeDesk x, int place, int links) {
        for (int i = 0; i < links; i++) {
            x.fixed(place, place, 0);
        }
    }

    // ---- what it is

    private static void usedFor512Calls() {
        sentence = "An object is used for at most 512 calls after it has been made";
        ChargeDesk x = new ChargeDesk();
        for (int i = 1; i <= 511; i++) {
            due("making " + i, x.flat(15, i), i);
        }
        due("the 512th call", x.ask(15, 0, 0), 511);
        x = new ChargeDesk();
        x.flat(0, 0);
        x.counted(1, 0);
        for (int i = 3; i <= 511; i++) {
            x.counted(1, 1);
        }
        due("the 512th call: told(0)", x.told(0), 511);
        x = new ChargeDesk();
        x.flat(0, 0);
        x.counted(1, 0);
        for (int i = 1; i <= 509; i++) {
            due("ask " + i, x.ask(1, 0, 0), i);
        }
        due("the 512th call: count", x.count(1), 509);
        x = new ChargeDesk();
        x.called(0, 0);
        for (int i = 1; i <= 510; i++) {
            x.ask(0, 0, 0);
        }
        due("the 512th call: told(2)", x.told(2), 510);
    }

    private static void constants() {
        sentence = "BAD = -1, NONE = -2, ZERO = -3, INDEX = -4, BAR = -5, TIRED = -6, DEEP = -7";
        int[] all = {BAD, NONE, ZERO, INDEX, BAR, TIRED, DEEP};
        for (int i = 0; i < all.length; i++) {
            due("constant " + i, all[i], -1 - i);
        }
    }

    // ---- terms: the numbers

    private static void rates() {
        sentence = "RATES 0 .. 7 are ints";
        insideAndBeyond("rate", 7, 1, k -> new ChargeDesk().rate(k, 3));
        insideAndBeyond("rated", 7, 1, k -> new ChargeDesk().rated(0, k));
        insideAndBeyond("live", 7, 1, k -> new ChargeDesk().live(0, k));
        ChargeDesk x = new ChargeDesk();
        int[] values = {MIN, MIN + 1, -1, 0, 1, MAX - 1, MAX, 12345};
        for (int k = 0; k < 8; k++) {
            x.rate(k, values[k]);
        }
        for (int k = 0; k < 8; k++) {
            x.rated(k, k);
            x.live(8 + k, k);
            gives(x, k, 1, 0, values[k]);
            gives(x, 8 + k, 1, 0, values[k]);
        }
    }

    private static void ratesAtFirst() {
        sentence = "RATES .. are ints, 0 at first";
        ChargeDesk x = new ChargeDesk();
        for (int k = 0; k < 8; k++) {
            x.rated(k, k);
            x.live(8 + k, k);
            gives(x, k, MAX, 0, 0);
            gives(x, 8 + k, MIN, 0, 0);
        }
    }

    private static void rows() {
        sentence = "ROWS 0 .. 3";
        insideAndBeyond("fresh", 3, 1, r -> new ChargeDesk().fresh(r, 1));
        insideAndBeyond("booked", 3, 1, r -> new ChargeDesk().booked(0, r));
        ChargeDesk x = new ChargeDesk();
        for (int r = 0; r < 4; r++) {
            x.fresh(r, 1 + r);
        }
        insideAndBeyond("book", 3, 1, r -> x.book(r, 0, 10 + r));
        for (int r = 0; r < 4; r++) {
            x.booked(r, r);
            gives(x, r, 0, 0, 10 + r);
            fails(x, r, 0, 1 + r, INDEX);
        }
    }

    private static void rowsUpTo8Places() {
        sentence = "ROWS .. have up to 8 places with ints";
        ChargeDesk x = new ChargeDesk();
        int[] values = {MIN, MIN + 1, -1, 0, 1, MAX - 1, MAX, 12345};
        due("fresh of 8", x.fresh(2, 8), 1);
        for (int i = 0; i < 8; i++) {
            due("book " + i, x.book(2, i, values[i]), 1);
        }
        due("book 8", x.book(2, 8, 1), BAD);
        x.booked(0, 2);
        for (int i = 0; i < 8; i++) {
            gives(x, 0, 0, i, values[i]);
        }
        fails(x, 0, 0, 8, INDEX);
    }

    private static void rowsAtFirst() {
        sentence = "ROWS .. none at first";
        ChargeDesk x = new ChargeDesk();
        for (int r = 0; r < 4; r++) {
            for (int i : new int[] {MIN, -1, 0, 1, 7, 8, MAX}) {
                due("book(" + r + ", " + i + ")", x.book(r, i, 1), BAD);
            }
            due("booked", x.booked(r, r), 1 + r);
            for (int d : new int[] {MIN, -1, 0, 1, 7, 8, MAX}) {
                fails(x, r, 0, d, INDEX);
            }
        }
    }

    private static void places() {
        sentence = "PLACES 0 .. 15 hold a RULE";
        insideAndBeyond("flat", 15, 17, p -> full().flat(p, 1));
        insideAndBeyond("rated", 15, 17, p -> full().rated(p, 0));
        insideAndBeyond("live", 15, 17, p -> full().live(p, 0));
        insideAndBeyond("booked", 15, 17, p -> full().booked(p, 0));
        insideAndBeyond("joined", 15, 17, p -> full().joined(p, 0, 1, 2));
        insideAndBeyond("when", 15, 17, p -> full().when(p, 1, 2, 3));
        insideAndBeyond("fixed", 15, 17, p -> full().fixed(p, 1, 2));
        insideAndBeyond("fed", 15, 17, p -> full().fed(p, 1, 2));
        insideAndBeyond("guarded", 15, 17, p -> full().guarded(p, 1, 2));
        insideAndBeyond("called", 15, 17, p -> full().called(p, 1));
        insideAndBeyond("called k", 15, 17, k -> full().called(1, k));
        insideAndBeyond("barred", 15, 17, p -> full().barred(p, 1, 2));
        insideAndBeyond("counted", 15, 17, p -> full().counted(p, 1));
        insideAndBeyond("kept", 15, 17, p -> full().kept(p, 1));
        insideAndBeyond("put from", 15, 1, p -> full().put(p, 7));
        insideAndBeyond("put to", 15, 1, p -> full().put(7, p));
        insideAndBeyond("take", 15, 1, p -> full().take(p));
        insideAndBeyond("same a", 15, 0, p -> full().same(p, 7));
        insideAndBeyond("same b", 15, 0, p -> full().same(7, p));
        insideAndBeyond("count", 15, NONE, p -> full().count(p));
        insideAndBeyond("ask", 15, 0, p -> {
            ChargeDesk x = full();
            long given = x.ask(p, 0, 0);
            due("ask " + p, given, x.failed() == 0 ? 100 + p : 0);
            return x.failed();
        });
        ChargeDesk x = full();
        for (int p = 0; p < 16; p++) {
            gives(x, p, 0, 0, 100 + p);
        }
    }

    private static long askAt(ChargeDesk x, int place, int made) {
        due("the making", made, 17);
        return x.ask(place, 0, 0);
    }

    /** Each PLACE of a held RULE, the first and the last too, and that the RULE of that very PLACE is held. */
    private static void placesOfHeldRules() {
        sentence = "the RULES that were at these PLACES then";
        for (int h : new int[] {0, 1, 14, 15}) {
            ChargeDesk x = full();
            due("joined a", askAt(x, 7, x.joined(7, 1, h, 8)), h - 8);
            x = full();
            due("joined b", askAt(x, 7, x.joined(7, 1, 8, h)), 8 - h);
            x = full();
            due("when a, b", askAt(x, 7, x.when(7, 8, h, 9)), 100 + h);
            x = full();
            x.flat(8, 0);
            due("when c", x.when(7, 8, 9, h), 18);
            due("when c", x.ask(7, 0, 0), 100 + h);
            x = full();
            x.flat(h, -1);
            due("when a", x.when(7, h, 8, 9), 18);
            due("when a", x.ask(7, 0, 0), 109);
            x = full();
            due("fixed", askAt(x, 7, x.fixed(7, h, 0)), 100 + h);
            x = full();
            due("fed a", askAt(x, 7, x.fed(7, h, 8)), 100 + h);
            x = full();
            x.rate(0, 1);
            x.rated(8, 0);
            due("fed b", x.fed(7, 8, h), 18);
            due("fed b", x.ask(7, 0, 0), 100 + h);
            x = full();
            due("guarded a", askAt(x, 7, x.guarded(7, h, 8)), 100 + h);
            x = full();
            x.booked(8, 0);
            due("guarded b", x.guarded(7, 8, h), 18);
            due("guarded b", x.ask(7, 0, 0), 100 + h);
            x = full();
            due("called", askAt(x, 7, x.called(7, h)), 100 + h);
            x = full();
            due("barred", askAt(x, 7, x.barred(7, h, 0)), 100 + h);
            x = full();
            due("counted", askAt(x, 7, x.counted(7, h)), 101 + h);
            x = full();
            due("kept", askAt(x, 7, x.kept(7, h)), 100 + h);
        }
    }

    private static void placesAtFirst() {
        sentence = "PLACES .. hold a RULE, or none (at first)";
        ChargeDesk x = new ChargeDesk();
        due("told(3)", x.told(3), 0);
        for (int p = 0; p < 16; p++) {
            due("take", x.take(p), NONE);
            due("count", x.count(p), NONE);
            due("same", x.same(p, p), 0);
            due("put", x.put(p, 0), NONE);
            due("kept", x.kept(p, p), NONE);
            fails(x, p, 0, 0, NONE);
        }
    }

    private static void eachMakingMakesANewRule() {
        sentence = "Each making makes a new RULE, which stands at the PLACE that it is told, instead of what stood there";
        for (int p : new int[] {0, 15}) {
            ChargeDesk x = full();
            x.put(p, 7);
            due("put", x.same(p, 7), 1);
            int made = 16;
            for (int kind = 0; kind < 13; kind++) {
                x.put(p, 7);
                due("kind " + kind, make(x, kind, p), ++made);
                due("another one stands there, kind " + kind, x.same(p, 7), 0);
                due("told(3)", x.told(3), 16);
            }
        }
    }

    /** Makes one of each kind in turn, of the RULES at PLACES 1 and 2. */
    private static int make(ChargeDesk x, int kind, int place) {
        switch (kind) {
            case 0: return x.flat(place, 1);
            case 1: return x.rated(place, 1);
            case 2: return x.live(place, 1);
            case 3: return x.booked(place, 1);
            case 4: return x.joined(place, 0, 1, 2);
            case 5: return x.when(place, 1, 2, 2);
            case 6: return x.fixed(place, 1, 1);
            case 7: return x.fed(place, 1, 2);
            case 8: return x.guarded(place, 1, 2);
            case 9: return x.called(place, 1);
            case 10: return x.barred(place, 1, MAX);
            case 11: return x.counted(place, 1);
            default: return x.kept(place, 1);
        }
    }

    private static void whoHoldsThatGoesOn() {
        sentence = "who holds that goes on with it";
        for (int kind = 4; kind < 13; kind++) {
            if (kind == 9) {
                continue;
            }
            ChargeDesk x = full();
            ChargeDesk untouched = full();
            make(x, kind, 15);
            make(untouched, kind, 15);
            x.take(1);
            x.flat(2, 7);
            due("kind " + kind, x.ask(15, 0, 0), untouched.ask(15, 0, 0));
            due("kind " + kind, x.failed(), 0);
        }
        ChargeDesk x = full();
        x.called(15, 1);
        x.flat(1, 7);
        gives(x, 15, 0, 0, 7);
        x.kept(1, 0);
        x.kept(1, 1);
        gives(x, 1, 0, 0, 100);
        steps(x, 3);
    }

    // ---- terms: what each kind gives

    private static final long[] LONGS = {
        Long.MIN_VALUE, Long.MIN_VALUE + 1, -(1L << 32) - 1, -(1L << 32), -(1L << 32) + 1, MIN - 1L, MIN, MIN + 1L, -7, -2, -1, 0,
        1, 2, 7, MAX - 1L, MAX, MAX + 1L, (1L << 32) - 1, 1L << 32, (1L << 32) + 1, Long.MAX_VALUE - 1, Long.MAX_VALUE,
    };

    private static void givesALongThatWraps() {
        sentence = "gives a long (sums, products and the like wrap)";
        for (long a : LONGS) {
            ChargeDesk x = new ChargeDesk();
            standLong(x, 0, a);
            gives(x, 0, 0, 0, a);
            steps(x, 7);
        }
        wraps(0, Long.MAX_VALUE, 1, Long.MIN_VALUE);
        wraps(0, Long.MIN_VALUE, -1, Long.MAX_VALUE);
        wraps(0, Long.MIN_VALUE, Long.MIN_VALUE, 0);
        wraps(1, Long.MIN_VALUE, 1, Long.MAX_VALUE);
        wraps(1, Long.MAX_VALUE, -1, Long.MIN_VALUE);
        wraps(1, 0, Long.MIN_VALUE, Long.MIN_VALUE);
        wraps(2, Long.MAX_VALUE, 2, -2);
        wraps(2, Long.MIN_VALUE, -1, Long.MIN_VALUE);
        wraps(2, 1L << 32, 1L << 32, 0);
        wraps(2, 1L << 32, 1L << 31, Long.MIN_VALUE);
        wraps(3, Long.MIN_VALUE, -1, Long.MIN_VALUE);
        wraps(4, Long.MIN_VALUE, -1, 0);
    }

    /** The desk where PLACE 2 is a and b by op, a and b any longs. */
    private static ChargeDesk joinedOf(int op, long a, long b) {
        ChargeDesk x = new ChargeDesk();
        standLong(x, 0, a);
        standLong(x, 1, b);
        x.joined(2, op, 0, 1);
        return x;
    }

    private static void wraps(int op, long a, long b, long want) {
        gives(joinedOf(op, a, b), 2, 0, 0, want);
    }

    private static void countedWraps() {
        sentence = "gives a long (sums .. wrap): COUNTED: a's and COUNT .. together";
        ChargeDesk x = new ChargeDesk();
        standLong(x, 0, Long.MAX_VALUE - 1);
        x.counted(1, 0);
        gives(x, 1, 0, 0, Long.MAX_VALUE);
        gives(x, 1, 0, 0, Long.MIN_VALUE);
        gives(x, 1, 0, 0, Long.MIN_VALUE + 1);
    }

    private static void flat() {
        sentence = "FLAT c: c";
        ChargeDesk x = new ChargeDesk();
        for (int c : new int[] {MIN, MIN + 1, -7, -1, 0, 1, MAX - 1, MAX}) {
            x.flat(0, c);
            gives(x, 0, 3, 4, c);
            gives(x, 0, MIN, MAX, c);
            steps(x, 1);
        }
    }

    private static final int[] INTS = {MIN, MIN + 1, -2, -1, 0, 1, 2, MAX - 1, MAX};

    private static void rated() {
        sentence = "RATED k: w times the RATE k as it was when the RULE was made";
        for (int rate : INTS) {
            ChargeDesk x = new ChargeDesk();
            x.rate(7, rate);
            x.rated(0, 7);
            x.rate(7, rate + 1);
            for (int w : INTS) {
                gives(x, 0, w, MAX, (long) w * rate);
            }
        }
    }

    private static void live() {
        sentence = "LIVE k: w times the RATE k as it is now";
        ChargeDesk x = new ChargeDesk();
        x.live(0, 7);
        for (int rate : INTS) {
            x.rate(7, rate);
            for (int w : INTS) {
                gives(x, 0, w, MIN, (long) w * rate);
            }
        }
    }

    private static void booked() {
        sentence = "BOOKED r: what is at place d of the ROW that ROW r was when the RULE was made";
        ChargeDesk x = new ChargeDesk();
        x.fresh(3, 8);
        x.booked(0, 3);
        x.book(3, 0, MIN);
        x.book(3, 7, MAX);
        gives(x, 0, 5, 0, MIN);
        gives(x, 0, 5, 7, MAX);
        gives(x, 0, 5, 6, 0);
        x.fresh(3, 8);
        x.book(3, 0, 1);
        gives(x, 0, 5, 0, MIN);
        gives(x, 0, 5, 7, MAX);
        x.booked(1, 3);
        gives(x, 1, 5, 0, 1);
        gives(x, 1, 5, 7, 0);
        x.clear();
        x.booked(1, 3);
        fails(x, 1, 5, 0, INDEX);
    }

    private static void bookedIndex() {
        sentence = "INDEX: it has no such place";
        for (int n = 0; n <= 8; n++) {
            ChargeDesk x = new ChargeDesk();
            x.fresh(0, n);
            x.booked(0, 0);
            for (int d = -1; d <= 9; d++) {
                if (d >= 0 && d < n) {
                    gives(x, 0, d, d, 0);
                } else {
                    fails(x, 0, 0, d, INDEX);
                    steps(x, 1);
                }
            }
            fails(x, 0, 0, MIN, INDEX);
            fails(x, 0, 0, MAX, INDEX);
        }
    }

    private static void joinedOps() {
        sentence = "BAD: op is not 0 .. 5";
        insideAndBeyond("joined op", 5, 17, op -> full().joined(2, op, 0, 1));
        long[] want = {9, 5, 14, 3, 1, 2};
        for (int op = 0; op < 6; op++) {
            gives(joinedOf(op, 7, 2), 2, 0, 0, want[op]);
        }
    }

    private static void joinedInOrder() {
        sentence = "JOINED a, b, ..: a's, then b's (both for w and d)";
        ChargeDesk x = new ChargeDesk();
        x.rate(0, 1);
        x.fresh(0, 2);
        x.book(0, 1, 50);
        x.live(0, 0);
        x.booked(1, 0);
        x.counted(2, 0);
        x.joined(3, 1, 2, 2);
        gives(x, 3, 9, 0, -1);
        x.joined(3, 1, 0, 1);
        gives(x, 3, 9, 1, -41);
        x.joined(3, 1, 1, 0);
        gives(x, 3, 9, 1, 41);
        x.barred(4, 0, 0);
        x.joined(3, 0, 1, 4);
        fails(x, 3, 1, 2, INDEX);
        steps(x, 2);
        x.joined(3, 0, 4, 1);
        fails(x, 3, 1, 2, BAR);
        steps(x, 2);
        x.joined(3, 3, 1, 4);
        fails(x, 3, 1, 1, BAR);
        steps(x, 3);
    }

    private static void joinedSumLessProduct() {
        sentence = "by op 0 their sum, 1 a's less b's, 2 product";
        for (long a : LONGS) {
            for (long b : new long[] {Long.MIN_VALUE, MIN, -1, 0, 1, 1L << 32, Long.MAX_VALUE}) {
                gives(joinedOf(0, a, b), 2, 0, 0, a + b);
                gives(joinedOf(1, a, b), 2, 0, 0, a - b);
                gives(joinedOf(2, a, b), 2, 0, 0, a * b);
            }
        }
    }

    private static void joinedCutTowardZero() {
        sentence = "3 a's by b's, cut toward 0";
        long[][] rows = {
            {7, 2, 3}, {-7, 2, -3}, {7, -2, -3}, {-7, -2, 3}, {6, 2, 3}, {-6, 2, -3}, {1, 2, 0}, {-1, 2, 0}, {1, -2, 0},
            {-1, -2, 0}, {0, -2, 0}, {0, 2, 0}, {5, 1, 5}, {5, -1, -5}, {MIN, -1, 1L << 31}, {2, 1L << 32, 0},
            {Long.MAX_VALUE, -1, -Long.MAX_VALUE}, {Long.MIN_VALUE, 1, Long.MIN_VALUE}, {Long.MIN_VALUE, -1, Long.MIN_VALUE},
            {Long.MIN_VALUE, Long.MIN_VALUE, 1}, {Long.MIN_VALUE, Long.MAX_VALUE, -1}, {Long.MAX_VALUE, Long.MIN_VALUE, 0},
        };
        for (long[] row : rows) {
            gives(joinedOf(3, row[0], row[1]), 2, 0, 0, row[2]);
        }
    }

    private static void joinedWhatIsLeft() {
        sentence = "4 what is left of that";
        long[][] rows = {
            {7, 2, 1}, {-7, 2, -1}, {7, -2, 1}, {-7, -2, -1}, {6, 2, 0}, {-6, 2, 0}, {1, 2, 1}, {-1, 2, -1}, {1, -2, 1},
            {-1, -2, -1}, {0, -2, 0}, {5, 1, 0}, {5, -1, 0}, {MIN, -1, 0}, {2, 1L << 32, 2}, {Long.MIN_VALUE, -1, 0},
            {Long.MIN_VALUE, 1, 0}, {Long.MIN_VALUE, Long.MAX_VALUE, -1}, {Long.MAX_VALUE, Long.MIN_VALUE, Long.MAX_VALUE},
        };
        for (long[] row : rows) {
            gives(joinedOf(4, row[0], row[1]), 2, 0, 0, row[2]);
        }
    }

    private static void joinedLesser() {
        sentence = "5 the lesser";
        for (int i = 0; i < LONGS.length; i++) {
            for (int j = 0; j < LONGS.length; j++) {
                gives(joinedOf(5, LONGS[i], LONGS[j]), 2, 0, 0, LONGS[i < j ? i : j]);
            }
        }
    }

    private static void joinedByZero() {
        sentence = "ZERO: by 0";
        for (long a : new long[] {Long.MIN_VALUE, -1, 0, 1, Long.MAX_VALUE}) {
            for (int op = 0; op < 6; op++) {
                ChargeDesk x = joinedOf(op, a, 0);
                if (op == 3 || op == 4) {
                    fails(x, 2, 0, 0, ZERO);
                    steps(x, 15);
                    due("asks that FAILED", x.told(2), 1);
                } else {
                    x.ask(2, 0, 0);
                    due("op " + op, x.failed(), 0);
                }
            }
            // Not 0, though the lowest 32 bits of some are.
            for (long b : new long[] {Long.MIN_VALUE, -(1L << 32), -1, 1, 1L << 32}) {
                gives(joinedOf(3, a, b), 2, 0, 0, a / b);
                gives(joinedOf(4, a, b), 2, 0, 0, a % b);
            }
        }
    }

    private static void whenAboveZero() {
        sentence = "WHEN a, b, c, likewise: a's; above 0 then b's, else c's";
        for (long a : LONGS) {
            ChargeDesk x = new ChargeDesk();
            standLong(x, 0, a);
            x.flat(1, 11);
            x.flat(2, 22);
            x.when(3, 0, 1, 2);
            gives(x, 3, 0, 0, a > 0 ? 11 : 22);
            steps(x, 9);
        }
    }

    private static void whenAsksTwo() {
        sentence = "WHEN a, b, c, likewise (for w and d)";
        ChargeDesk x = new ChargeDesk();
        x.rate(0, 1);
        x.live(0, 0);
        x.booked(1, 0);
        x.when(2, 0, 0, 1);
        gives(x, 2, 1, 5, 1);
        fails(x, 2, 0, 5, INDEX);
        fails(x, 2, -1, 5, INDEX);
        steps(x, 3);
        x.when(2, 0, 1, 0);
        fails(x, 2, 1, 5, INDEX);
        gives(x, 2, 0, 5, 0);
        gives(x, 2, MIN, 5, MIN);
        x.fresh(0, 6);
        x.book(0, 5, 1);
        x.booked(1, 0);
        x.when(2, 1, 0, 1);
        gives(x, 2, MAX, 5, MAX);
        gives(x, 2, MAX, 4, 0);
        fails(x, 2, MAX, 6, INDEX);
        steps(x, 2);
    }

    private static void fixed() {
        sentence = "FIXED a, n: a's for w and the WAY n";
        ChargeDesk x = new ChargeDesk();
        x.fresh(0, 8);
        x.book(0, 0, 5);
        x.book(0, 7, 75);
        x.booked(0, 0);
        int[] ways = {MIN, -1, 0, 1, 7, 8, MAX};
        int[] wants = {INDEX, INDEX, 5, 0, 75, INDEX, INDEX};
        for (int i = 0; i < ways.length; i++) {
            x.fixed(1, 0, ways[i]);
            for (int d : new int[] {MIN, -1, 0, 7, 8, MAX}) {
                if (wants[i] == INDEX) {
                    fails(x, 1, 0, d, INDEX);
                } else {
                    gives(x, 1, 0, d, wants[i]);
                }
                steps(x, 2);
            }
        }
        x.rate(0, 1);
        x.live(0, 0);
        x.fixed(1, 0, 3);
        for (int w : INTS) {
            gives(x, 1, w, 0, w);
        }
    }

    private static void fedLowest32Bits() {
        sentence = "FED a, b: b's for w and d; a's for the lowest 32 bits of that, and d";
        long[] fed = {
            Long.MIN_VALUE, Long.MIN_VALUE + 1, -(1L << 32) - 1, -(1L << 32), -(1L << 32) + 1, MIN - 1L, MIN, -1, 0, 1, MAX, MAX + 1L,
            (1L << 32) - 1, 1L << 32, (1L << 32) + 1, Long.MAX_VALUE - 1, Long.MAX_VALUE,
        };
        int[] want = {0, 1, -1, 0, 1, MAX, MIN, -1, 0, 1, MAX, MIN, -1, 0, 1, -2, -1};
        for (int i = 0; i < fed.length; i++) {
            ChargeDesk x = new ChargeDesk();
            x.rate(0, 1);
            x.live(0, 0);
            standLong(x, 1, fed[i]);
            x.fed(2, 0, 1);
            gives(x, 2, 77, 0, want[i]);
            steps(x, 9);
        }
    }

    private static void fedOrder() {
        sentence = "FED a, b: b's for w and d; a's .. (and d)";
        ChargeDesk x = new ChargeDesk();
        x.rate(0, 2);
        x.fresh(0, 2);
        x.book(0, 1, 50);
        x.live(0, 0);
        x.booked(1, 0);
        x.fed(2, 0, 1);
        gives(x, 2, 9, 1, 100);
        fails(x, 2, 9, 2, INDEX);
        steps(x, 2);
        x.fed(2, 1, 0);
        gives(x, 2, 9, 1, 50);
        fails(x, 2, 1, 2, INDEX);
        steps(x, 3);
        x.barred(3, 0, 5);
        x.fed(2, 1, 3);
        fails(x, 2, 6, 2, BAR);
        steps(x, 2);
        x.fed(2, 3, 0);
        gives(x, 2, 2, 0, 8);
        fails(x, 2, 3, 0, BAR);
        steps(x, 3);
    }

    /** Stands one that FAILS so, at the PLACE, for w 1 and d 9: INDEX, ZERO, BAR or NONE; PLACE 13 has none. */
    private static int standFailing(ChargeDesk x, int place, int why) {
        x.take(13);
        x.flat(place, 0);
        if (why == ZERO) {
            x.joined(place, 3, place, place);
            return 3;
        }
        if (why == BAR) {
            x.barred(place, place, 0);
            return 1;
        }
        if (why == NONE) {
            x.called(place, 13);
            return 2;
        }
        x.booked(place, 0);
        return 1;
    }

    private static void guarded() {
        sentence = "GUARDED a, b: a's; if that FAILS, .. b's";
        for (int why : new int[] {NONE, ZERO, INDEX, BAR}) {
            ChargeDesk x = new ChargeDesk();
            int inner = standFailing(x, 0, why);
            x.rate(0, 1);
            x.live(1, 0);
            x.counted(2, 1);
            x.guarded(3, 0, 2);
            gives(x, 3, 1, 9, 2);
            steps(x, 1 + inner + 2);
            due("it did not FAIL", x.told(2), 0);
            x.guarded(4, 1, 2);
            gives(x, 4, 1, 9, 1);
            steps(x, 2);
            due("b is asked only if a FAILS", x.count(2), 1);
            x.guarded(5, 0, 0);
            fails(x, 5, 1, 9, why);
            steps(x, 1 + 2 * inner);
            x.guarded(6, 5, 1);
            gives(x, 6, 1, 9, 1);
            // Behind a guarded failure, what is asked next must not be taken for failed.
            x.joined(7, 0, 3, 1);
            gives(x, 7, 1, 9, 4);
        }
        ChargeDesk x = new ChargeDesk();
        x.flat(0, 0);
        x.flat(1, -1);
        x.guarded(2, 0, 1);
        gives(x, 2, 0, 0, 0);
        x.guarded(2, 1, 0);
        gives(x, 2, 0, 0, -1);
        x.booked(0, 0);
        x.fresh(0, 8);
        x.book(0, 7, 70);
        x.booked(1, 0);
        x.guarded(2, 0, 1);
        gives(x, 2, 0, 7, 70);
        fails(x, 2, 0, 8, INDEX);
        x.guarded(2, 1, 0);
        gives(x, 2, 0, 7, 70);
    }

    private static void guardedButByTiredDeep() {
        sentence = "GUARDED ..: if that FAILS, but by TIRED, DEEP, b's";
        ChargeDesk x = new ChargeDesk();
        x.flat(0, 1);
        x.counted(1, 0);
        x.called(2, 2);
        x.guarded(3, 2, 1);
        x.guarded(4, 3, 1);
        fails(x, 4, 0, 0, DEEP);
        steps(x, 25);
        due("b is not asked behind DEEP", x.count(1), 0);
        x = new ChargeDesk();
        x.flat(0, 1);
        x.counted(1, 0);
        standSpender(x, 2, 79);
        x.fixed(2, 2, 0);
        x.guarded(3, 2, 1);
        x.guarded(4, 3, 1);
        fails(x, 4, 0, 0, TIRED);
        steps(x, 80);
        due("b is not asked behind TIRED", x.count(1), 0);
    }

    private static void called() {
        sentence = "CALLED k: what is given by the RULE that is at PLACE k now";
        for (int k : new int[] {0, 15}) {
            ChargeDesk x = new ChargeDesk();
            x.rate(0, 1);
            x.live(k, 0);
            x.called(7, k);
            gives(x, 7, MIN, 0, MIN);
            steps(x, 2);
            x.fresh(0, 8);
            x.book(0, 7, 3);
            x.booked(k, 0);
            gives(x, 7, 0, 7, 3);
            x.flat(8, 4);
            x.put(8, k);
            gives(x, 7, 0, 0, 4);
            x.take(k);
            fails(x, 7, 0, 0, NONE);
            x.put(8, k);
            gives(x, 7, 0, 0, 4);
        }
    }

    private static void calledNone() {
        sentence = "CALLED ..; NONE: there is none";
        for (int k : new int[] {0, 15}) {
            ChargeDesk x = new ChargeDesk();
            x.called(7, k);
            fails(x, 7, 0, 0, NONE);
            steps(x, 2);
            due("it FAILED, it was not refused", x.told(2), 1);
            x.flat(k, 0);
            gives(x, 7, 0, 0, 0);
            due("asks that FAILED", x.told(2), 1);
        }
    }

    private static void calledNoneIsAskedLikeARule() {
        sentence = "(that is asked like a RULE: a STEP, TIRED and DEEP ahead)";
        ChargeDesk x = new ChargeDesk();
        x.called(0, 13);
        standChain(x, 0, 22);
        fails(x, 0, 0, 0, NONE);
        steps(x, 24);
        x.fixed(0, 0, 0);
        fails(x, 0, 0, 0, DEEP);
        steps(x, 25);
        for (int spent : new int[] {76, 77, 78}) {
            x = new ChargeDesk();
            standSpender(x, 0, spent);
            x.called(1, 13);
            x.joined(2, 0, 0, 1);
            fails(x, 2, 0, 0, spent == 78 ? TIRED : NONE);
            steps(x, Math.min(80, spent + 3));
        }
        x = new ChargeDesk();
        x.called(1, 13);
        standChain(x, 1, 22);
        standSpender(x, 0, 55);
        x.joined(2, 0, 0, 1);
        fails(x, 2, 0, 0, DEEP);
        steps(x, 80);
        standSpender(x, 0, 56);
        x.joined(2, 0, 0, 1);
        fails(x, 2, 0, 0, TIRED);
        steps(x, 80);
    }

    private static void barred() {
        sentence = "BARRED a, m: BAR, if w is above m, else a's";
        for (int m : new int[] {MIN, MIN + 1, -1, 0, 1, MAX - 1, MAX}) {
            ChargeDesk x = new ChargeDesk();
            x.rate(0, 1);
            x.live(0, 0);
            x.counted(1, 0);
            x.barred(2, 1, m);
            gives(x, 2, m, 0, m + 1L);
            steps(x, 3);
            gives(x, 2, MIN, 0, MIN + 2L);
            if (m != MIN) {
                gives(x, 2, m - 1, 0, m - 1L + 3);
            }
            int asked = x.count(1);
            if (m != MAX) {
                fails(x, 2, m + 1, 0, BAR);
                steps(x, 1);
                fails(x, 2, MAX, 0, BAR);
            }
            due("a is not asked", x.count(1), asked);
        }
        ChargeDesk x = new ChargeDesk();
        x.booked(0, 0);
        x.barred(1, 0, 0);
        fails(x, 1, 0, 1, INDEX);
        fails(x, 1, 1, 0, BAR);
        x.fresh(0, 8);
        x.book(0, 7, 70);
        x.booked(0, 0);
        x.barred(1, 0, 0);
        gives(x, 1, 0, 7, 70);
    }

    private static void counted() {
        sentence = "COUNTED a: its COUNT (its own, 0 at first) is one more";
        ChargeDesk x = new ChargeDesk();
        x.fresh(0, 1);
        x.booked(0, 0);
        x.counted(1, 0);
        x.counted(2, 0);
        due("0 at first", x.count(1), 0);
        gives(x, 1, 0, 0, 1);
        due("one more", x.count(1), 1);
        due("its own", x.count(2), 0);
        fails(x, 1, 0, 1, INDEX);
        due("one more, though a FAILS", x.count(1), 2);
        gives(x, 1, 0, 0, 3);
        x.put(1, 15);
        x.take(1);
        gives(x, 15, 0, 0, 4);
        due("the RULE's own, not the PLACE's", x.count(15), 4);
        x.put(15, 1);
        due("the RULE's own, not the PLACE's", x.count(1), 4);
        x.counted(1, 0);
        due("0 at first", x.count(1), 0);
        due("its own", x.count(15), 4);
        x.counted(3, 15);
        gives(x, 3, 0, 0, 6);
        due("one in another", x.count(3), 1);
        due("one in another", x.count(15), 5);
        due("count() changes nothing", x.count(15), 5);
    }

    /** PLACE 6 asks itself, through a CALLED, for one less than w, down to 0; there it gives 0. */
    private static void standCallingSelf(ChargeDesk x) {
        x.rate(0, 1);
        x.live(0, 0);
        x.flat(1, 1);
        x.joined(2, 1, 0, 1);
        x.called(3, 6);
        x.fed(3, 3, 2);
        x.flat(4, 0);
        x.when(5, 0, 3, 4);
        x.counted(6, 5);
    }

    private static void countedBehindThat() {
        sentence = "then a's and COUNT, as it is behind that, together";
        ChargeDesk x = new ChargeDesk();
        standCallingSelf(x);
        gives(x, 6, 0, 0, 1);
        gives(x, 6, 0, 0, 2);
        gives(x, 6, 1, 0, 4 + 4);
        due("count", x.count(6), 4);
        gives(x, 6, 3, 0, 4 * 8);
        due("count", x.count(6), 8);
    }

    private static void keptSame() {
        sentence = "KEPT a: for the same w and d as when a's last came to it: that again, a is not asked";
        int[][] loadsAndWays = {{0, 0}, {5, 3}, {3, 5}, {-1, -1}, {MIN, MAX}, {MAX, MIN}, {MIN, MIN}, {MAX, MAX}};
        for (int[] kept : loadsAndWays) {
            int w = kept[0];
            int d = kept[1];
            int[][] others = {{w + 1, d}, {w - 1, d}, {w, d + 1}, {w, d - 1}, {w + 1, d - 1}, {-w - 1, -d - 1}, {~w, d}, {w, ~d}};
            for (int[] other : others) {
                ChargeDesk x = new ChargeDesk();
                x.flat(0, 0);
                x.counted(1, 0);
                x.kept(2, 1);
                gives(x, 2, w, d, 1);
                steps(x, 3);
                gives(x, 2, w, d, 1);
                steps(x, 1);
                gives(x, 2, w, d, 1);
                due("a is not asked", x.count(1), 1);
                gives(x, 2, other[0], other[1], 2);
                steps(x, 3);
            }
        }
        ChargeDesk x = new ChargeDesk();
        x.rate(0, 1);
        x.live(0, 0);
        x.kept(1, 0);
        gives(x, 1, 5, 0, 5);
        x.rate(0, 2);
        gives(x, 1, 5, 0, 5);
        gives(x, 0, 5, 0, 10);
    }

    private static void keptInsteadOfWhatWas() {
        sentence = "else a's, which is kept then (instead of what was)";
        ChargeDesk x = new ChargeDesk();
        x.fresh(0, 2);
        x.booked(0, 0);
        x.counted(1, 0);
        x.kept(2, 1);
        gives(x, 2, 0, 0, 1);
        gives(x, 2, 0, 1, 2);
        gives(x, 2, 0, 1, 2);
        gives(x, 2, 0, 0, 3);
        gives(x, 2, 0, 0, 3);
        gives(x, 2, 1, 0, 4);
        gives(x, 2, 0, 0, 5);
        fails(x, 2, 0, 2, INDEX);
        gives(x, 2, 0, 0, 5);
        steps(x, 1);
        fails(x, 2, 0, 2, INDEX);
        steps(x, 3);
        due("count", x.count(1), 7);
        x.kept(3, 2);
        gives(x, 3, 0, 0, 5);
        steps(x, 2);
        gives(x, 3, 0, 1, 8);
        gives(x, 2, 0, 1, 8);
        steps(x, 1);
        for (long v : LONGS) {
            x = new ChargeDesk();
            standLong(x, 0, v);
            x.kept(1, 0);
            gives(x, 1, 0, 0, v);
            gives(x, 1, 0, 0, v);
            steps(x, 1);
        }
    }

    private static void keptNothingYet() {
        sentence = "KEPT a: .. as when a's last came to it (it has not come yet)";
        for (int w : new int[] {MIN, -1, 0, 1, MAX}) {
            ChargeDesk x = new ChargeDesk();
            x.flat(0, 7);
            x.kept(1, 0);
            gives(x, 1, w, w, 7);
            steps(x, 2);
            x.booked(2, 0);
            x.kept(3, 2);
            fails(x, 3, w, w, INDEX);
            fails(x, 3, w, w, INDEX);
            steps(x, 2);
            x.kept(1, 0);
            gives(x, 1, w, w, 7);
            steps(x, 2);
        }
    }

    // ---- terms: STEPS, TIRED, DEEP

    private static void stepsFirstToo() {
        sentence = "STEPS: each RULE that is asked, the first one too: 80 in one ask()";
        ChargeDesk x = new ChargeDesk();
        x.flat(0, 1);
        gives(x, 0, 0, 0, 1);
        steps(x, 1);
        for (int n = 1; n <= 83; n++) {
            x = new ChargeDesk();
            standSpender(x, 0, n);
            if (n <= 80) {
                gives(x, 0, 0, 0, 0);
                steps(x, n);
            } else {
                fails(x, 0, 0, 0, TIRED);
                steps(x, 80);
            }
        }
        sentence = "80 in one ask(): each ask() has its own";
        x = new ChargeDesk();
        standSpender(x, 0, 79);
        x.fixed(0, 0, 0);
        for (int w = 1; w <= 4; w++) {
            gives(x, 0, w, 0, 0);
            steps(x, 80);
        }
    }

    private interface Asker {
        /** Makes a RULE at PLACE 1 that asks what is at PLACE 0; at PLACE 2 is FLAT 1, at PLACE 3 one that FAILS by INDEX. */
        int make(ChargeDesk x);
    }

    /** Each way in which a RULE asks another. */
    private static final Asker[] ASKERS = {
        x -> x.joined(1, 0, 0, 2), x -> x.joined(1, 0, 2, 0), x -> x.when(1, 0, 2, 2), x -> x.when(1, 2, 0, 2),
        x -> x.when(1, 4, 2, 0), x -> x.fixed(1, 0, 9), x -> x.fed(1, 2, 0), x -> x.fed(1, 0, 2),
        x -> x.guarded(1, 0, 2), x -> x.guarded(1, 3, 0), x -> x.called(1, 0), x -> x.barred(1, 0, 1),
        x -> x.counted(1, 0), x -> x.kept(1, 0),
    };
    private static final String[] ASKER_NAMES = {
        "JOINED a", "JOINED b", "WHEN a", "WHEN b", "WHEN c", "FIXED", "FED b", "FED a", "GUARDED a", "GUARDED b", "CALLED", "BARRED",
        "COUNTED", "KEPT",
    };
    /** How many STEPS each has had itself, and ahead of what is at PLACE 0. */
    private static final int[] AHEAD = {1, 2, 1, 2, 2, 1, 1, 2, 1, 2, 1, 1, 1, 1};
    /** How many STEPS each has behind that. */
    private static final int[] BEHIND = {1, 0, 1, 0, 0, 0, 1, 0, 0, 0, 0, 0, 0, 0};
    /** What each gives, when what is at PLACE 0 gives 0. */
    private static final int[] GIVES = {1, 1, 1, 0, 0, 0, 1, 0, 0, 0, 0, 0, 1, 0};
    private static final int GUARDED_A = 8;

    private static ChargeDesk deskForAskers() {
        ChargeDesk x = new ChargeDesk();
        x.flat(2, 1);
        x.booked(3, 0);
        x.flat(4, 0);
        return x;
    }

    private static void stepsByEveryAsker() {
        for (int i = 0; i < ASKERS.length; i++) {
            sentence = "80 in one ask(); one more is TIRED: " + ASKER_NAMES[i];
            for (int total = 79; total <= 83; total++) {
                ChargeDesk x = deskForAskers();
                standSpender(x, 0, total - AHEAD[i] - BEHIND[i]);
                ASKERS[i].make(x);
                if (total <= 80) {
                    gives(x, 1, 1, 9, GIVES[i]);
                    steps(x, total);
                } else {
                    fails(x, 1, 1, 9, TIRED);
                    steps(x, 80);
                    due("asks that FAILED", x.told(2), 1);
                }
            }
        }
    }

    private static void tiredIsNoStep() {
        sentence = "one more is TIRED (and no STEP ..)";
        for (int spent = 78; spent <= 80; spent++) {
            ChargeDesk x = new ChargeDesk();
            standSpender(x, 0, spent);
            x.flat(1, 1);
            x.counted(2, 1);
            x.joined(3, 0, 0, 2);
            fails(x, 3, 0, 0, TIRED);
            steps(x, 80);
            due("the one more has not been asked", x.count(2), spent == 78 ? 1 : 0);
        }
    }

    private static void tiredAheadOfDeep() {
        sentence = "one more is TIRED (.. ahead of DEEP)";
        for (int spent = 53; spent <= 58; spent++) {
            ChargeDesk x = new ChargeDesk();
            standSpender(x, 0, spent);
            x.called(1, 1);
            x.joined(2, 0, 0, 1);
            fails(x, 2, 0, 0, spent <= 55 ? DEEP : TIRED);
            steps(x, Math.min(80, 1 + spent + 24));
        }
    }

    private static void deepByEveryAsker() {
        for (int i = 0; i < ASKERS.length; i++) {
            sentence = "DEEP: 24 RULES are asked and have not given yet, and one more is to be asked (it is a STEP): "
                + ASKER_NAMES[i];
            for (int links = 21; links <= 24; links++) {
                ChargeDesk x = deskForAskers();
                x.flat(0, 0);
                standChain(x, 0, links);
                ASKERS[i].make(x);
                if (links <= 22) {
                    gives(x, 1, 1, 9, GIVES[i]);
                    steps(x, AHEAD[i] + links + 1 + BEHIND[i]);
                } else {
                    fails(x, 1, 1, 9, DEEP);
                    steps(x, AHEAD[i] + 24);
                    due("asks that FAILED", x.told(2), 1);
                }
            }
            for (int links = 21; links <= 24; links++) {
                ChargeDesk x = deskForAskers();
                x.flat(0, 0);
                ASKERS[i].make(x);
                standChain(x, 1, links);
                if (links <= 22) {
                    gives(x, 1, 1, 9, GIVES[i]);
                } else {
                    fails(x, 1, 1, 9, DEEP);
                    steps(x, 25);
                }
            }
        }
    }

    private static void deepHaveNotGivenYet() {
        sentence = "DEEP: 24 RULES are asked and have not given yet (those that have given do not count)";
        ChargeDesk x = new ChargeDesk();
        x.flat(0, 1);
        standChain(x, 0, 22);
        x.joined(1, 0, 0, 0);
        gives(x, 1, 0, 0, 2);
        steps(x, 47);
        x.joined(2, 0, 0, 0);
        x.fixed(2, 2, 0);
        fails(x, 2, 0, 0, DEEP);
        steps(x, 25);
        sentence = "DEEP: .. (nor does one that has FAILED, in GUARDED)";
        x = new ChargeDesk();
        x.booked(0, 0);
        standChain(x, 0, 22);
        x.flat(1, 1);
        standChain(x, 1, 22);
        x.guarded(2, 0, 1);
        gives(x, 2, 0, 9, 1);
        steps(x, 47);
        sentence = "DEEP: .. (nor one that KEPT does not ask)";
        x = new ChargeDesk();
        x.flat(0, 1);
        x.kept(0, 0);
        standChain(x, 0, 22);
        gives(x, 0, 0, 0, 1);
        x.fixed(0, 0, 0);
        gives(x, 0, 0, 0, 1);
        steps(x, 24);
        x.fixed(0, 0, 0);
        fails(x, 0, 0, 0, DEEP);
        steps(x, 25);
    }

    private static void failsEndsAllThatAsked() {
        for (int i = 0; i < ASKERS.length; i++) {
            sentence = "What FAILS so ends all that asked for it (but in GUARDED): " + ASKER_NAMES[i];
            for (int why : new int[] {NONE, ZERO, INDEX, BAR}) {
                ChargeDesk x = deskForAskers();
                int inner = standFailing(x, 0, why);
                ASKERS[i].make(x);
                if (i == GUARDED_A) {
                    gives(x, 1, 1, 9, 1);
                    steps(x, AHEAD[i] + inner + 1);
                    due("asks that FAILED", x.told(2), 0);
                } else {
                    fails(x, 1, 1, 9, why);
                    steps(x, AHEAD[i] + inner);
                    due("asks that FAILED", x.told(2), 1);
                }
                x.fixed(5, 1, 9);
                x.counted(6, 5);
                x.barred(7, 6, 1);
                x.ask(7, 1, 9);
                due("all that asked", x.failed(), i == GUARDED_A ? 0 : why);
            }
        }
    }

    private static void changedTillThenStays() {
        sentence = "what was changed till then (COUNTS, what is kept) stays";
        for (int why : new int[] {NONE, ZERO, INDEX, BAR, TIRED, DEEP}) {
            ChargeDesk x = new ChargeDesk();
            x.flat(0, 4);
            x.counted(1, 0);
            x.kept(2, 1);
            if (why == DEEP) {
                x.called(3, 3);
            } else if (why == TIRED) {
                standSpender(x, 3, 80);
            } else {
                standFailing(x, 3, why);
            }
            x.joined(4, 0, 2, 3);
            fails(x, 4, 1, 9, why);
            due("COUNT", x.count(1), 1);
            gives(x, 2, 1, 9, 5);
            steps(x, 1);
            due("COUNT", x.count(1), 1);
            x.counted(5, 3);
            fails(x, 5, 1, 9, why);
            due("COUNT of one whose a FAILS", x.count(5), 1);
            x.guarded(6, 4, 0);
            x.ask(6, 1, 8);
            due("COUNT, in GUARDED", x.count(1), 2);
            gives(x, 2, 1, 8, 6);
            steps(x, 1);
        }
        ChargeDesk x = new ChargeDesk();
        x.called(0, 1);
        x.counted(1, 0);
        fails(x, 1, 0, 0, DEEP);
        due("12 of the 24 are the COUNTED one", x.count(1), 12);
        fails(x, 1, 0, 0, DEEP);
        due("12 more", x.count(1), 24);
    }

    // ---- the sentences ahead of the calls

    private static void howManyWereMade() {
        sentence = "each makes one at a PLACE: how many were made";
        ChargeDesk x = new ChargeDesk();
        due("flat", x.flat(1, 1), 1);
        due("flat", x.flat(2, 1), 2);
        for (int kind = 0; kind < 13; kind++) {
            due("kind " + kind, make(x, kind, 15), 3 + kind);
            due("told(0)", x.told(0), 3 + kind);
        }
        x.take(15);
        x.put(1, 15);
        x.flat(16, 1);
        x.kept(0, 9);
        x.ask(15, 0, 0);
        due("only makings count", x.told(0), 15);
        due("only makings count", x.flat(0, 1), 16);
    }

    private static void badHeldPlace() {
        sentence = "BAD: a PLACE, or another number";
        insideAndBeyond("joined a", 15, 17, h -> full().joined(7, 0, h, 2));
        insideAndBeyond("joined b", 15, 17, h -> full().joined(7, 0, 1, h));
        insideAndBeyond("when a", 15, 17, h -> full().when(7, h, 2, 3));
        insideAndBeyond("when b", 15, 17, h -> full().when(7, 1, h, 3));
        insideAndBeyond("when c", 15, 17, h -> full().when(7, 1, 2, h));
        insideAndBeyond("fixed a", 15, 17, h -> full().fixed(7, h, 2));
        insideAndBeyond("fed a", 15, 17, h -> full().fed(7, h, 2));
        insideAndBeyond("fed b", 15, 17, h -> full().fed(7, 1, h));
        insideAndBeyond("guarded a", 15, 17, h -> full().guarded(7, h, 2));
        insideAndBeyond("guarded b", 15, 17, h -> full().guarded(7, 1, h));
        insideAndBeyond("barred a", 15, 17, h -> full().barred(7, h, 2));
        insideAndBeyond("counted a", 15, 17, h -> full().counted(7, h));
        insideAndBeyond("kept a", 15, 17, h -> full().kept(7, h));
    }

    private static void noneToHold() {
        sentence = "NONE: a PLACE of one that it is to hold has none";
        for (int none : new int[] {0, 1, 14, 15}) {
            ChargeDesk x = full();
            x.take(none);
            for (int place : new int[] {7, none}) {
                due("joined a", x.joined(place, 0, none, 8), NONE);
                due("joined b", x.joined(place, 0, 8, none), NONE);
                due("when a", x.when(place, none, 8, 9), NONE);
                due("when b", x.when(place, 8, none, 9), NONE);
                due("when c", x.when(place, 8, 9, none), NONE);
                due("fixed a", x.fixed(place, none, 0), NONE);
                due("fed a", x.fed(place, none, 8), NONE);
                due("fed b", x.fed(place, 8, none), NONE);
                due("guarded a", x.guarded(place, none, 8), NONE);
                due("guarded b", x.guarded(place, 8, none), NONE);
                due("barred a", x.barred(place, none, 0), NONE);
                due("counted a", x.counted(place, none), NONE);
                due("kept a", x.kept(place, none), NONE);
            }
            due("made", x.told(0), 16);
            due("told(3)", x.told(3), 15);
            gives(x, 7, 0, 0, 107);
            sentence = "NONE: .. (but not the PLACE where it is to stand)";
            due("kept", x.kept(none, 8), 17);
            gives(x, none, 0, 0, 108);
            sentence = "NONE: a PLACE of one that it is to hold has none";
        }
    }

    private static void firstThatACallNames() {
        sentence = "Answers below 0 are refusals, the first that a call names";
        ChargeDesk x = new ChargeDesk();
        x.flat(0, 1);
        due("joined: op, then NONE", x.joined(0, 6, 1, 1), BAD);
        due("joined: NONE", x.joined(0, 5, 1, 1), NONE);
        due("joined: a NONE, b BAD", x.joined(0, 5, 1, 16), BAD);
        due("joined: a BAD, b NONE", x.joined(0, 5, -1, 1), BAD);
        due("joined: place BAD, a NONE", x.joined(16, 5, 1, 0), BAD);
        due("when: a NONE, c BAD", x.when(0, 1, 0, 16), BAD);
        due("when: b NONE, c BAD", x.when(0, 0, 1, -1), BAD);
        due("when: c NONE", x.when(0, 0, 0, 1), NONE);
        due("fixed: place BAD, a NONE", x.fixed(-1, 1, 0), BAD);
        due("fed: a NONE, b BAD", x.fed(0, 1, 16), BAD);
        due("guarded: a NONE, b BAD", x.guarded(0, 1, 16), BAD);
        due("barred: place BAD, a NONE", x.barred(16, 1, 0), BAD);
        due("counted: place BAD, a NONE", x.counted(16, 1), BAD);
        due("kept: place BAD, a NONE", x.kept(16, 1), BAD);
        due("put: from NONE, to BAD", x.put(1, 16), BAD);
        due("put: from BAD, to none", x.put(16, 1), BAD);
        due("made", x.told(0), 1);
    }

    // ---- promises

    private static void fresh() {
        sentence = "ROW r is a new one, of n places (0 .. 8) with 0";
        insideAndBeyond("fresh n", 8, 1, n -> new ChargeDesk().fresh(0, n));
        for (int n = 0; n <= 8; n++) {
            ChargeDesk x = new ChargeDesk();
            x.fresh(3, 8);
            for (int i = 0; i < 8; i++) {
                x.book(3, i, -1);
            }
            x.booked(0, 3);
            due("fresh", x.fresh(3, n), 1);
            x.booked(1, 3);
            for (int i = 0; i < n; i++) {
                gives(x, 1, 0, i, 0);
            }
            for (int i = n; i <= 8; i++) {
                fails(x, 1, 0, i, INDEX);
                due("book", x.book(3, i, 1), BAD);
            }
            for (int i = 0; i < 8; i++) {
                gives(x, 0, 0, i, -1);
            }
            due("a row next to it", x.book(2, 0, 1), BAD);
        }
    }

    private static void book() {
        sentence = "Place i of ROW r, as it is, has v: 1. BAD: r, or there is no such place";
        for (int n = 1; n <= 8; n++) {
            ChargeDesk x = new ChargeDesk();
            x.fresh(1, n);
            x.booked(0, 1);
            due("book 0", x.book(1, 0, MIN), 1);
            due("book the last", x.book(1, n - 1, MAX), 1);
            for (int i : new int[] {-1, n, n + 1, MIN, MAX}) {
                due("book " + i, x.book(1, i, 5), BAD);
            }
            gives(x, 0, 0, n - 1, MAX);
            gives(x, 0, 0, 0, n == 1 ? MAX : MIN);
            due("book again", x.book(1, 0, 6), 1);
            gives(x, 0, 0, 0, 6);
            x.fresh(1, n);
            x.book(1, 0, 7);
            gives(x, 0, 0, 0, 6);
            for (int r : new int[] {-1, 4, MIN, MAX}) {
                due("book in " + r, x.book(r, 0, 5), BAD);
            }
            for (int r : new int[] {0, 2, 3}) {
                due("book in " + r, x.book(r, 0, 5), BAD);
            }
        }
    }

    private static void calledMayHaveNone() {
        sentence = "(PLACE k may have none.)";
        for (int k = 0; k < 16; k++) {
            ChargeDesk x = new ChargeDesk();
            due("called", x.called((k + 1) % 16, k), 1);
            fails(x, (k + 1) % 16, 0, 0, NONE);
            due("told(3)", x.told(3), 1);
            x = new ChargeDesk();
            due("called, itself", x.called(k, k), 1);
            fails(x, k, 0, 0, DEEP);
        }
    }

    private static void put() {
        sentence = "The RULE at PLACE from stands at PLACE to, too: 1. BAD; NONE";
        for (int from : new int[] {0, 7, 15}) {
            for (int to : new int[] {0, 7, 15}) {
                ChargeDesk x = full();
                due("put", x.put(from, to), 1);
                due("too", x.same(from, to), 1);
                gives(x, to, 0, 0, 100 + from);
                gives(x, from, 0, 0, 100 + from);
                due("none is made", x.told(0), 16);
                due("told(3)", x.told(3), 16);
                x.take(from);
                due("from none", x.put(from, to), NONE);
                due("what is at to stays", x.take(to), from == to ? NONE : 1);
                due("from none to none", x.put(from, to), NONE);
            }
        }
    }

    private static void take() {
        sentence = "A PLACE has none any more: 1. BAD; NONE: it had none";
        for (int p : new int[] {0, 7, 15}) {
            ChargeDesk x = full();
            due("take", x.take(p), 1);
            due("told(3)", x.told(3), 15);
            due("take again", x.take(p), NONE);
            due("told(3)", x.told(3), 15);
            fails(x, p, 0, 0, NONE);
            due("made", x.told(0), 16);
            for (int other = 0; other < 16; other++) {
                due("same " + other, x.same(other, other), other == p ? 0 : 1);
            }
            due("a new one", x.flat(p, 1), 17);
            due("take", x.take(p), 1);
        }
        for (int bad : new int[] {-1, 16, MIN, MAX}) {
            due("take " + bad, full().take(bad), BAD);
        }
    }

    private static void askGivesZero() {
        sentence = "what it gives; 0, when it FAILS, or is refused. BAD: a PLACE; NONE";
        ChargeDesk x = new ChargeDesk();
        x.flat(0, 5);
        for (int bad : new int[] {-1, 16, MIN, MAX}) {
            fails(x, bad, 1, 9, BAD);
        }
        for (int none = 1; none < 16; none++) {
            fails(x, none, 1, 9, NONE);
        }
        due("none of these FAILED", x.told(2), 0);
        for (int why : new int[] {NONE, ZERO, INDEX, BAR}) {
            standFailing(x, 1, why);
            x.joined(2, 0, 0, 1);
            fails(x, 2, 1, 9, why);
        }
        x.called(1, 1);
        x.joined(2, 0, 0, 1);
        fails(x, 2, 1, 9, DEEP);
        standSpender(x, 1, 80);
        x.joined(2, 0, 0, 1);
        fails(x, 2, 1, 9, TIRED);
        due("all of these FAILED", x.told(2), 6);
        gives(x, 0, MIN, MIN, 5);
        gives(x, 0, MAX, MAX, 5);
    }

    private static void failed() {
        sentence = "Why the latest ask() gave 0: ..; 0: it gave what came, or there was none";
        ChargeDesk x = new ChargeDesk();
        due("there was none", x.failed(), 0);
        x.flat(0, 0);
        x.booked(1, 0);
        due("there was none", x.failed(), 0);
        gives(x, 0, 0, 0, 0);
        fails(x, 1, 0, 0, INDEX);
        x.flat(2, 1);
        x.flat(16, 1);
        x.put(9, 1);
        x.rate(8, 1);
        x.take(9);
        x.count(9);
        x.same(16, 16);
        due("the latest ask(), not the latest call", x.failed(), INDEX);
        gives(x, 0, 0, 0, 0);
        fails(x, 16, 0, 0, BAD);
        fails(x, 9, 0, 0, NONE);
        fails(x, 1, 0, 0, INDEX);
        x.clear();
        due("there was none", x.failed(), 0);
    }

    private static void same() {
        sentence = "Whether at both PLACES is the same RULE: 1, 0 (also where there is none). BAD";
        ChargeDesk x = new ChargeDesk();
        for (int p : new int[] {0, 7, 15}) {
            due("none at one", x.same(p, p), 0);
            due("none at both", x.same(p, 8), 0);
            due("none at both", x.same(8, p), 0);
        }
        for (int p : new int[] {0, 15}) {
            x.flat(p, 1);
            due("one and itself", x.same(p, p), 1);
            due("one and none", x.same(p, 8), 0);
            due("none and one", x.same(8, p), 0);
        }
        due("alike, but two", x.same(0, 15), 0);
        x.put(0, 15);
        due("one at both", x.same(0, 15), 1);
        due("one at both", x.same(15, 0), 1);
        x.kept(15, 15);
        due("one that holds the other", x.same(0, 15), 0);
        x.put(15, 0);
        x.take(15);
        due("taken at one", x.same(0, 15), 0);
        x.take(0);
        due("taken at both", x.same(0, 15), 0);
    }

    private static void count() {
        sentence = "The COUNT of the RULE at a PLACE. BAD; NONE: no RULE that is COUNTED";
        for (int p : new int[] {0, 15}) {
            ChargeDesk x = new ChargeDesk();
            due("none", x.count(p), NONE);
            x.flat(1, 1);
            x.counted(2, 1);
            for (int kind = 0; kind < 13; kind++) {
                make(x, kind, p);
                due("kind " + kind, x.count(p), kind == 11 ? 0 : NONE);
            }
            x.kept(p, 2);
            due("one that holds a COUNTED one", x.count(p), NONE);
            x.called(p, 2);
            due("one that calls a COUNTED one", x.count(p), NONE);
            x.put(2, p);
            due("a COUNTED one", x.count(p), 0);
            x.ask(2, 0, 0);
            due("a COUNTED one", x.count(p), 1);
            x.take(p);
            due("taken", x.count(p), NONE);
        }
        for (int bad : new int[] {-1, 16, MIN, MAX}) {
            due("count " + bad, new ChargeDesk().count(bad), BAD);
        }
    }

    private static void told() {
        sentence = "0 RULES made, 1 STEPS of the latest ask() .., 2 asks that FAILED, 3 PLACES with a RULE. BAD";
        insideAndBeyond("told", 3, 0, what -> new ChargeDesk().told(what));
        ChargeDesk x = new ChargeDesk();
        for (int i = 0; i < 7; i++) {
            x.booked(0, 0);
        }
        for (int i = 0; i < 5; i++) {
            x.ask(0, 0, 0);
        }
        x.flat(1, 1);
        x.flat(2, 1);
        x.joined(2, 0, 1, 2);
        x.ask(2, 0, 0);
        due("made", x.told(0), 10);
        due("STEPS", x.told(1), 3);
        due("FAILED", x.told(2), 5);
        due("PLACES", x.told(3), 3);
        x.ask(16, 0, 0);
        x.ask(9, 0, 0);
        due("refused asks have not FAILED", x.told(2), 5);
        x.guarded(3, 0, 1);
        x.ask(3, 0, 0);
        due("guarded asks have not FAILED", x.told(2), 5);
    }

    private static void toldSteps() {
        sentence = "1 STEPS of the latest ask() (0 when it was refused)";
        ChargeDesk x = new ChargeDesk();
        due("there was none", x.told(1), 0);
        x.flat(0, 1);
        x.fixed(1, 0, 0);
        for (int bad : new int[] {-1, 16, MIN, MAX, 2, 15}) {
            gives(x, 1, 0, 0, 1);
            steps(x, 2);
            x.ask(bad, 0, 0);
            steps(x, 0);
        }
        gives(x, 1, 0, 0, 1);
        x.flat(16, 0);
        x.take(1);
        x.failed();
        steps(x, 2);
        x.booked(2, 0);
        fails(x, 2, 0, 0, INDEX);
        steps(x, 1);
    }

    private static void toldPlaces() {
        sentence = "3 PLACES with a RULE";
        ChargeDesk x = new ChargeDesk();
        for (int p = 0; p < 16; p++) {
            due("told(3)", x.told(3), p);
            x.flat(p, 1);
        }
        due("full", x.told(3), 16);
        x.flat(0, 1);
        x.put(0, 15);
        due("full, over others", x.told(3), 16);
        for (int p = 15; p >= 0; p--) {
            x.take(p);
            due("told(3)", x.told(3), p);
        }
        x.take(0);
        due("empty", x.told(3), 0);
        x.flat(0, 1);
        x.put(0, 1);
        due("one RULE at two PLACES", x.told(3), 2);
    }

    private static void clear() {
        sentence = "As at the beginning (told(), failed() 0): how many RULES were made";
        due("of a new one", new ChargeDesk().clear(), 0);
        ChargeDesk x = full();
        for (int k = 0; k < 8; k++) {
            x.rate(k, 5);
        }
        for (int r = 0; r < 4; r++) {
            x.fresh(r, 8);
        }
        x.booked(0, 0);
        x.counted(1, 1);
        x.ask(1, 0, 0);
        x.ask(0, 0, 8);
        due("failed before", x.failed(), INDEX);
        due("clear", x.clear(), 18);
        for (int what = 0; what < 4; what++) {
            due("told(" + what + ")", x.told(what), 0);
        }
        due("failed()", x.failed(), 0);
        for (int p = 0; p < 16; p++) {
            due("no RULES", x.take(p), NONE);
        }
        for (int r = 0; r < 4; r++) {
            due("ROWS without places", x.book(r, 0, 1), BAD);
        }
        for (int k = 0; k < 8; k++) {
            due("made from 1 on", x.live(k, k), 1 + k);
            gives(x, k, 7, 0, 0);
        }
        due("clear", x.clear(), 8);
        due("clear at once again", x.clear(), 0);
        x.flat(0, 1);
        due("clear behind one", x.clear(), 1);
    }
}
