import java.util.ArrayList;
import java.util.List;

/**
 * "Answers below 0 are refusals, the first that a call names; what is refused changes nothing.": each refused call
 * is made on one of two desks that are alike, and both must look alike behind it, in all that a desk can tell.
 */
public final class ChargeDeskRefusals {
    private static final int MIN = Integer.MIN_VALUE;
    private static final int MAX = Integer.MAX_VALUE;
    private static final int BAD = ChargeDesk.BAD;
    private static final int NONE = ChargeDesk.NONE;
    private static final int INDEX = ChargeDesk.INDEX;

    /** PLACES that have none in every desk here; PLACES 0 .. 12 and 15 have one in the furnished desk. */
    private static final int EMPTY = 13;
    private static final int EMPTY_TOO = 14;

    private static final int[] NO_PLACES = {-1, 16, MIN, MAX};
    private static final int[] NO_RATES = {-1, 8, MIN, MAX};
    private static final int[] NO_ROWS = {-1, 4, MIN, MAX};
    private static final int[] NO_LENGTHS = {-1, 9, MIN, MAX};
    private static final int[] NO_OPS = {-1, 6, MIN, MAX};
    private static final int[] NO_TOLD = {-1, 4, MIN, MAX};

    private static final int NEW = 0;
    private static final int FURNISHED = 1;
    private static final int CLEARED = 2;
    private static final String[] DESKS = {"a new desk", "a furnished desk", "a cleared desk"};

    private static int wrong = 0;

    private interface Call {
        long on(ChargeDesk x);
    }

    private static void due(String what, long got, long want) {
        if (got != want) {
            wrong++;
            System.out.println(what + " answered " + got + ", due is " + want);
        }
    }

    private static void alike(String what, List<Long> got, List<Long> want) {
        for (int i = 0; i < want.size(); i++) {
            if (!got.get(i).equals(want.get(i))) {
                wrong++;
                System.out.println(what + ": the desk is another behind it: answer " + i + " is " + got.get(i)
                    + ", was " + want.get(i));
                return;
            }
        }
    }

    /** Every kind stands on it; rows are held that are ROWS no more; the latest ask FAILED, by INDEX, in 3 STEPS. */
    private static ChargeDesk furnished() {
        ChargeDesk x = new ChargeDesk();
        for (int k = 0; k < 8; k++) {
            x.rate(k, 100 + k);
        }
        x.fresh(0, 3);
        x.book(0, 2, 32);
        x.fresh(1, 8);
        x.book(1, 7, 87);
        x.fresh(3, 1);
        x.flat(0, 5);
        x.rated(1, 0);
        x.live(2, 7);
        x.booked(3, 0);
        x.joined(4, 0, 0, 3);
        x.when(5, 3, 1, 2);
        x.fixed(6, 3, 2);
        x.fed(7, 1, 3);
        x.guarded(8, 3, 0);
        x.called(9, EMPTY);
        x.barred(10, 2, 9);
        x.counted(11, 3);
        x.kept(12, 11);
        x.booked(15, 1);
        x.rate(0, 200);
        x.fresh(0, 2);
        x.book(0, 1, 21);
        x.ask(12, 9, 2);
        x.ask(4, 9, 7);
        return x;
    }

    private static ChargeDesk desk(int which) {
        if (which == NEW) {
            return new ChargeDesk();
        }
        ChargeDesk x = furnished();
        if (which == CLEARED) {
            x.clear();
        }
        return x;
    }

    private static void addAsk(List<Long> seen, ChargeDesk x, int place, int w, int d) {
        seen.add(x.ask(place, w, d));
        seen.add((long) x.failed());
        seen.add((long) x.told(1));
    }

    /** All that the desk tells, in some 350 calls; the first two are failed() and the STEPS, which a refused ask sets. */
    private static List<Long> portrait(ChargeDesk x) {
        List<Long> seen = new ArrayList<>();
        seen.add((long) x.failed());
        seen.add((long) x.told(1));
        seen.add((long) x.told(0));
        seen.add((long) x.told(2));
        seen.add((long) x.told(3));
        for (int a = 0; a < 16; a++) {
            seen.add((long) x.count(a));
            for (int b = a; b < 16; b++) {
                seen.add((long) x.same(a, b));
            }
        }
        // 9, 2 is what the KEPT one of the furnished desk keeps; it comes first, so that it is still kept.
        for (int place = 15; place >= 0; place--) {
            addAsk(seen, x, place, 9, 2);
            addAsk(seen, x, place, 10, 7);
        }
        addRowsAndRates(seen, x);
        seen.add((long) x.told(0));
        return seen;
    }

    private static void addRowsAndRates(List<Long> seen, ChargeDesk x) {
        // Booked in the ROW as it is and read through the RULE that holds the row: it must be the very same row.
        seen.add((long) x.book(1, 7, 88));
        addAsk(seen, x, 15, 0, 7);
        seen.add((long) x.book(0, 0, 20));
        addAsk(seen, x, 3, 0, 0);
        for (int r = 0; r < 4; r++) {
            seen.add((long) x.booked(EMPTY, r));
            for (int d = 0; d < 9; d++) {
                seen.add(x.ask(EMPTY, 0, d));
                seen.add((long) x.failed());
            }
        }
        for (int k = 0; k < 8; k++) {
            seen.add((long) x.live(EMPTY, k));
            seen.add(x.ask(EMPTY, 1, 0));
        }
    }

    private static void refuses(String name, int why, Call call) {
        for (int which = NEW; which <= CLEARED; which++) {
            String what = name + " on " + DESKS[which];
            ChargeDesk x = desk(which);
            due(what, call.on(x), why);
            alike(what, portrait(x), portrait(desk(which)));
        }
    }

    private static void refusesAsk(String name, int why, Call call) {
        for (int which = NEW; which <= CLEARED; which++) {
            String what = name + " on " + DESKS[which];
            ChargeDesk x = desk(which);
            due(what, call.on(x), 0);
            List<Long> want = portrait(desk(which));
            want.set(0, (long) why);
            want.set(1, 0L);
            alike(what, portrait(x), want);
        }
    }

    public static void main(String[] args) {
        thePortraitSees();
        theDesk();
        makingsAlone();
        makingsBadPlace();
        makingsBadHeld();
        makingsNone();
        makingsBadAheadOfNone();
        putAndTake();
        asking();
        looking();
        clearing();
        System.out.println(wrong == 0 ? "all answers are as due" : wrong + " answers are not as due");
        if (wrong != 0) {
            System.exit(1);
        }
    }

    /** A portrait that could not tell a changed desk from another would prove nothing. */
    private static void thePortraitSees() {
        Call[] changes = {
            x -> x.rate(0, 1), x -> x.rate(7, 1), x -> x.fresh(0, 3), x -> x.fresh(1, 8), x -> x.fresh(2, 1),
            x -> x.fresh(3, 0), x -> x.book(0, 1, 1), x -> x.book(1, 7, 1), x -> x.book(3, 0, 1), x -> x.flat(0, 5),
            x -> x.live(2, 7), x -> x.flat(EMPTY, 1), x -> x.put(0, 1), x -> x.put(0, EMPTY), x -> x.take(0),
            x -> x.take(15), x -> x.ask(0, 0, 0), x -> x.ask(11, 0, 0), x -> x.ask(12, 0, 0), x -> x.clear(),
        };
        List<Long> before = portrait(furnished());
        for (int i = 0; i < changes.length; i++) {
            ChargeDesk x = furnished();
            changes[i].on(x);
            if (portrait(x).equals(before)) {
                wrong++;
                System.out.println("change " + i + " is not seen");
            }
        }
        due("the furnished desk: failed()", before.get(0), INDEX);
        due("the furnished desk: STEPS", before.get(1), 3);
        due("the furnished desk: asks that FAILED", before.get(3), 1);
    }

    private static void theDesk() {
        for (int k : NO_RATES) {
            refuses("rate(" + k + ", 1)", BAD, x -> x.rate(k, 1));
        }
        for (int r : NO_ROWS) {
            refuses("fresh(" + r + ", 1)", BAD, x -> x.fresh(r, 1));
            refuses("book(" + r + ", 0, 1)", BAD, x -> x.book(r, 0, 1));
        }
        for (int n : NO_LENGTHS) {
            for (int r = 0; r < 4; r++) {
                int row = r;
                refuses("fresh(" + r + ", " + n + ")", BAD, x -> x.fresh(row, n));
            }
        }
        // The ROWS of the furnished desk have 2, 8, 0 and 1 places; those of the others have none.
        int[][] noSuchPlace = {{2, 3, -1, MIN, MAX}, {8, 9, -1, MIN, MAX}, {0, 1, -1, MIN, MAX}, {1, 2, -1, MIN, MAX}};
        for (int r = 0; r < 4; r++) {
            for (int i : noSuchPlace[r]) {
                int row = r;
                refuses("book(" + r + ", " + i + ", 1)", BAD, x -> x.book(row, i, 1));
            }
        }
    }

    private static void makingsAlone() {
        for (int k : NO_RATES) {
            refuses("rated(0, " + k + ")", BAD, x -> x.rated(0, k));
            refuses("live(0, " + k + ")", BAD, x -> x.live(0, k));
        }
        for (int r : NO_ROWS) {
            refuses("booked(0, " + r + ")", BAD, x -> x.booked(0, r));
        }
        for (int k : NO_PLACES) {
            refuses("called(0, " + k + ")", BAD, x -> x.called(0, k));
        }
    }

    private static void makingsBadPlace() {
        for (int p : NO_PLACES) {
            refuses("flat(" + p + ", 1)", BAD, x -> x.flat(p, 1));
            refuses("rated(" + p + ", 0)", BAD, x -> x.rated(p, 0));
            refuses("live(" + p + ", 0)", BAD, x -> x.live(p, 0));
            refuses("booked(" + p + ", 0)", BAD, x -> x.booked(p, 0));
            refuses("joined(" + p + ", 0, 1, 2)", BAD, x -> x.joined(p, 0, 1, 2));
            refuses("when(" + p + ", 0, 1, 2)", BAD, x -> x.when(p, 0, 1, 2));
            refuses("fixed(" + p + ", 0, 1)", BAD, x -> x.fixed(p, 0, 1));
            refuses("fed(" + p + ", 0, 1)", BAD, x -> x.fed(p, 0, 1));
            refuses("guarded(" + p + ", 0, 1)", BAD, x -> x.guarded(p, 0, 1));
            refuses("called(" + p + ", 0)", BAD, x -> x.called(p, 0));
            refuses("barred(" + p + ", 0, 1)", BAD, x -> x.barred(p, 0, 1));
            refuses("counted(" + p + ", 0)", BAD, x -> x.counted(p, 0));
            refuses("kept(" + p + ", 0)", BAD, x -> x.kept(p, 0));
        }
    }

    private static void makingsBadHeld() {
        for (int op : NO_OPS) {
            refuses("joined(0, " + op + ", 1, 2)", BAD, x -> x.joined(0, op, 1, 2));
        }
        for (int h : NO_PLACES) {
            refuses("joined(0, 0, " + h + ", 2)", BAD, x -> x.joined(0, 0, h, 2));
            refuses("joined(0, 0, 1, " + h + ")", BAD, x -> x.joined(0, 0, 1, h));
            refuses("when(0, " + h + ", 1, 2)", BAD, x -> x.when(0, h, 1, 2));
            refuses("when(0, 1, " + h + ", 2)", BAD, x -> x.when(0, 1, h, 2));
            refuses("when(0, 1, 2, " + h + ")", BAD, x -> x.when(0, 1, 2, h));
            refuses("fixed(0, " + h + ", 1)", BAD, x -> x.fixed(0, h, 1));
            refuses("fed(0, " + h + ", 1)", BAD, x -> x.fed(0, h, 1));
            refuses("fed(0, 1, " + h + ")", BAD, x -> x.fed(0, 1, h));
            refuses("guarded(0, " + h + ", 1)", BAD, x -> x.guarded(0, h, 1));
            refuses("guarded(0, 1, " + h + ")", BAD, x -> x.guarded(0, 1, h));
            refuses("barred(0, " + h + ", 1)", BAD, x -> x.barred(0, h, 1));
            refuses("counted(0, " + h + ")", BAD, x -> x.counted(0, h));
            refuses("kept(0, " + h + ")", BAD, x -> x.kept(0, h));
        }
    }

    private static void makingsNone() {
        for (int h : new int[] {EMPTY, EMPTY_TOO}) {
            for (int op = 0; op < 6; op++) {
                int by = op;
                refuses("joined(0, " + op + ", " + h + ", 2)", NONE, x -> x.joined(0, by, h, 2));
                refuses("joined(0, " + op + ", 1, " + h + ")", NONE, x -> x.joined(0, by, 1, h));
            }
            refuses("when(0, " + h + ", 1, 2)", NONE, x -> x.when(0, h, 1, 2));
            refuses("when(0, 1, " + h + ", 2)", NONE, x -> x.when(0, 1, h, 2));
            refuses("when(0, 1, 2, " + h + ")", NONE, x -> x.when(0, 1, 2, h));
            refuses("fixed(0, " + h + ", 1)", NONE, x -> x.fixed(0, h, 1));
            refuses("fed(0, " + h + ", 1)", NONE, x -> x.fed(0, h, 1));
            refuses("fed(0, 1, " + h + ")", NONE, x -> x.fed(0, 1, h));
            refuses("guarded(0, " + h + ", 1)", NONE, x -> x.guarded(0, h, 1));
            refuses("guarded(0, 1, " + h + ")", NONE, x -> x.guarded(0, 1, h));
            refuses("barred(0, " + h + ", 1)", NONE, x -> x.barred(0, h, 1));
            refuses("counted(0, " + h + ")", NONE, x -> x.counted(0, h));
            refuses("kept(0, " + h + ")", NONE, x -> x.kept(0, h));
            // At the PLACE where it is to stand itself there is none to hold, either.
            refuses("kept(" + h + ", " + h + ")", NONE, x -> x.kept(h, h));
            refuses("counted(" + h + ", " + h + ")", NONE, x -> x.counted(h, h));
        }
    }

    /** "the first that a call names": each names BAD, then NONE, whichever argument comes first. */
    private static void makingsBadAheadOfNone() {
        for (int op : NO_OPS) {
            refuses("joined(0, " + op + ", none, none)", BAD, x -> x.joined(0, op, EMPTY, EMPTY_TOO));
        }
        for (int bad : NO_PLACES) {
            refuses("joined(" + bad + ", 0, none, none)", BAD, x -> x.joined(bad, 0, EMPTY, EMPTY_TOO));
            refuses("joined(0, 0, " + bad + ", none)", BAD, x -> x.joined(0, 0, bad, EMPTY));
            refuses("joined(0, 0, none, " + bad + ")", BAD, x -> x.joined(0, 0, EMPTY, bad));
            refuses("when(" + bad + ", none, none, none)", BAD, x -> x.when(bad, EMPTY, EMPTY, EMPTY));
            refuses("when(0, " + bad + ", none, none)", BAD, x -> x.when(0, bad, EMPTY, EMPTY));
            refuses("when(0, none, " + bad + ", none)", BAD, x -> x.when(0, EMPTY, bad, EMPTY));
            refuses("when(0, none, none, " + bad + ")", BAD, x -> x.when(0, EMPTY, EMPTY, bad));
            refuses("fixed(" + bad + ", none, 1)", BAD, x -> x.fixed(bad, EMPTY, 1));
            refuses("fed(" + bad + ", none, none)", BAD, x -> x.fed(bad, EMPTY, EMPTY));
            refuses("fed(0, " + bad + ", none)", BAD, x -> x.fed(0, bad, EMPTY));
            refuses("fed(0, none, " + bad + ")", BAD, x -> x.fed(0, EMPTY, bad));
            refuses("guarded(" + bad + ", none, none)", BAD, x -> x.guarded(bad, EMPTY, EMPTY));
            refuses("guarded(0, " + bad + ", none)", BAD, x -> x.guarded(0, bad, EMPTY));
            refuses("guarded(0, none, " + bad + ")", BAD, x -> x.guarded(0, EMPTY, bad));
            refuses("barred(" + bad + ", none, 1)", BAD, x -> x.barred(bad, EMPTY, 1));
            refuses("counted(" + bad + ", none)", BAD, x -> x.counted(bad, EMPTY));
            refuses("kept(" + bad + ", none)", BAD, x -> x.kept(bad, EMPTY));
            refuses("put(none, " + bad + ")", BAD, x -> x.put(EMPTY, bad));
            refuses("put(" + bad + ", none)", BAD, x -> x.put(bad, EMPTY));
        }
    }

    private static void putAndTake() {
        for (int bad : NO_PLACES) {
            refuses("put(" + bad + ", 0)", BAD, x -> x.put(bad, 0));
            refuses("put(0, " + bad + ")", BAD, x -> x.put(0, bad));
            refuses("put(" + bad + ", " + bad + ")", BAD, x -> x.put(bad, bad));
            refuses("take(" + bad + ")", BAD, x -> x.take(bad));
        }
        for (int none : new int[] {EMPTY, EMPTY_TOO}) {
            refuses("put(" + none + ", 0)", NONE, x -> x.put(none, 0));
            refuses("put(" + none + ", 15)", NONE, x -> x.put(none, 15));
            refuses("put(" + none + ", " + none + ")", NONE, x -> x.put(none, none));
            refuses("take(" + none + ")", NONE, x -> x.take(none));
        }
    }

    private static void asking() {
        for (int bad : NO_PLACES) {
            refusesAsk("ask(" + bad + ", 1, 1)", BAD, x -> x.ask(bad, 1, 1));
            refusesAsk("ask(" + bad + ", MIN, MAX)", BAD, x -> x.ask(bad, MIN, MAX));
        }
        for (int none : new int[] {EMPTY, EMPTY_TOO}) {
            refusesAsk("ask(" + none + ", 1, 1)", NONE, x -> x.ask(none, 1, 1));
            refusesAsk("ask(" + none + ", MAX, MIN)", NONE, x -> x.ask(none, MAX, MIN));
        }
    }

    /** Calls that only look: refused or answered, they change nothing. */
    private static void looking() {
        for (int bad : NO_PLACES) {
            refuses("same(" + bad + ", 0)", BAD, x -> x.same(bad, 0));
            refuses("same(0, " + bad + ")", BAD, x -> x.same(0, bad));
            refuses("same(" + bad + ", none)", BAD, x -> x.same(bad, EMPTY));
            refuses("same(none, " + bad + ")", BAD, x -> x.same(EMPTY, bad));
            refuses("same(" + bad + ", " + bad + ")", BAD, x -> x.same(bad, bad));
            refuses("count(" + bad + ")", BAD, x -> x.count(bad));
        }
        for (int what : NO_TOLD) {
            refuses("told(" + what + ")", BAD, x -> x.told(what));
        }
        // Every PLACE but 11 has none, or one that is not COUNTED, also where that holds a COUNTED one.
        for (int place = 0; place < 16; place++) {
            if (place != 11) {
                int at = place;
                refuses("count(" + place + ")", NONE, x -> x.count(at));
            }
        }
        Call[] looks = {
            x -> x.failed(), x -> x.same(0, 0), x -> x.same(0, 1), x -> x.count(11),
            x -> x.told(0), x -> x.told(1), x -> x.told(2), x -> x.told(3),
        };
        for (int i = 0; i < looks.length; i++) {
            ChargeDesk x = furnished();
            due("look " + i + ", asked twice", looks[i].on(x), looks[i].on(x));
            alike("look " + i, portrait(x), portrait(furnished()));
        }
    }

    /** "As at the beginning": behind clear() all answers are those of a new desk. */
    private static void clearing() {
        alike("clear()", portrait(desk(CLEARED)), portrait(new ChargeDesk()));
        ChargeDesk x = furnished();
        due("clear() of a furnished desk", x.clear(), 14);
        due("clear() of a cleared desk", x.clear(), 0);
        alike("clear() twice", portrait(x), portrait(new ChargeDesk()));
        due("clear() of a desk that was looked at", x.clear(), 12);
        for (int what = 0; what < 4; what++) {
            due("told(" + what + ") behind it", x.told(what), 0);
        }
        due("failed() behind it", x.failed(), 0);
    }
}
