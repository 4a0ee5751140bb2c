/** One method a promise of ../shared/DOC.md, and a few more for the Terms that several promises lean on. */
public final class ChargeDeskPromises {
    private static final int MIN = Integer.MIN_VALUE;
    private static final int MAX = Integer.MAX_VALUE;
    private static final int BAD = ChargeDesk.BAD;
    private static final int NONE = ChargeDesk.NONE;
    private static final int ZERO = ChargeDesk.ZERO;
    private static final int INDEX = ChargeDesk.INDEX;
    private static final int BAR = ChargeDesk.BAR;
    private static final int TIRED = ChargeDesk.TIRED;
    private static final int DEEP = ChargeDesk.DEEP;

    private static int wrong = 0;

    private static void due(String what, long got, long want) {
        if (got != want) {
            wrong++;
            System.out.println(what + " answered " + got + ", due is " + want);
        }
    }

    private static void gives(String what, ChargeDesk x, int place, int w, int d, long want) {
        due(what + ": ask(" + place + ", " + w + ", " + d + ")", x.ask(place, w, d), want);
        due(what + ": failed() behind it", x.failed(), 0);
    }

    private static void fails(String what, ChargeDesk x, int place, int w, int d, int why) {
        int before = x.told(2);
        due(what + ": ask(" + place + ", " + w + ", " + d + ")", x.ask(place, w, d), 0);
        due(what + ": failed() behind it", x.failed(), why);
        due(what + ": asks that FAILED", x.told(2), before + 1);
    }

    private static void steps(String what, ChargeDesk x, int want) {
        due(what + ": STEPS", x.told(1), want);
    }

    public static void main(String[] args) {
        constants();
        promise1New();
        promise2Rate();
        promise3Fresh();
        promise4Book();
        promise5Flat();
        promise6Rated();
        promise7Live();
        promise8Booked();
        promise9Joined();
        promise9JoinedEdges();
        promise10When();
        promise11Fixed();
        promise12Fed();
        promise13Guarded();
        promise14Called();
        promise15Barred();
        promise16Counted();
        promise16CountedAskedWithinItself();
        promise17Kept();
        promise17KeptAskedWithinItself();
        promise18Put();
        promise19Take();
        promise20Ask();
        promise21Failed();
        promise22Same();
        promise23Count();
        promise24Told();
        promise25Clear();
        termsTired();
        termsDeep();
        termsTiredAheadOfDeep();
        termsEmptyPlaceIsAsked();
        termsWhatWasChangedStays();
        termsRulesHoldRules();
        termsRefusalsChangeNothing();
        System.out.println(wrong == 0 ? "all answers are as due" : wrong + " answers are not as due");
        if (wrong != 0) {
            System.exit(1);
        }
    }

    private static void constants() {
        int[] all = {BAD, NONE, ZERO, INDEX, BAR, TIRED, DEEP};
        for (int i = 0; i < all.length; i++) {
            due("constant " + i, all[i], -1 - i);
        }
    }

    private static void promise1New() {
        ChargeDesk x = new ChargeDesk();
        for (int what = 0; what < 4; what++) {
            due("1: told(" + what + ")", x.told(what), 0);
        }
        due("1: failed", x.failed(), 0);
        for (int place = 0; place < 16; place++) {
            due("1: take " + place, x.take(place), NONE);
        }
        for (int r = 0; r < 4; r++) {
            due("1: book " + r, x.book(r, 0, 1), BAD);
            x.booked(r, r);
            fails("1: row " + r, x, r, 1, 0, INDEX);
        }
        for (int k = 0; k < 8; k++) {
            x.live(k, k);
            gives("1: rate " + k, x, k, 5, 0, 0);
            x.rated(k, k);
            gives("1: rate " + k, x, k, 5, 0, 0);
        }
    }

    private static void promise2Rate() {
        ChargeDesk x = new ChargeDesk();
        for (int k = 0; k < 8; k++) {
            due("2: rate " + k, x.rate(k, 10 + k), 1);
            x.live(k, k);
        }
        for (int k : new int[] {-1, 8, MIN, MAX}) {
            due("2: rate " + k, x.rate(k, 1), BAD);
        }
        for (int k = 0; k < 8; k++) {
            gives("2: rate " + k, x, k, 3, 0, 3 * (10 + k));
        }
        due("2: rate MIN", x.rate(7, MIN), 1);
        gives("2: rate MIN", x, 7, 1, 0, MIN);
        gives("2: its neighbour", x, 6, 1, 0, 16);
    }

    private static void promise3Fresh() {
        ChargeDesk x = new ChargeDesk();
        for (int n = 0; n <= 8; n++) {
            due("3: fresh " + n, x.fresh(3, n), 1);
            for (int i = 0; i < n; i++) {
                due("3: book", x.book(3, i, 5), 1);
            }
            due("3: book behind the end", x.book(3, n, 5), BAD);
        }
        due("3: again, of 8", x.fresh(3, 8), 1);
        x.booked(0, 3);
        for (int i = 0; i < 8; i++) {
            gives("3: zeros in a new row", x, 0, 1, i, 0);
        }
        for (int n : new int[] {-1, 9, MIN, MAX}) {
            due("3: fresh of " + n, x.fresh(0, n), BAD);
        }
        for (int r : new int[] {-1, 4, MIN, MAX}) {
            due("3: fresh at " + r, x.fresh(r, 1), BAD);
        }
        due("3: refused, nothing changed", x.book(0, 0, 1), BAD);
        due("3: the old row is still of 8", x.book(3, 7, 1), 1);
        due("3: refused, the row stays", x.fresh(3, 9), BAD);
        due("3: refused, the row stays", x.book(3, 7, 1), 1);
    }

    private static void promise4Book() {
        ChargeDesk x = new ChargeDesk();
        x.fresh(0, 2);
        x.fresh(3, 8);
        x.booked(0, 0);
        x.booked(3, 3);
        due("4: book", x.book(0, 1, MAX), 1);
        due("4: book", x.book(3, 7, MIN), 1);
        gives("4", x, 0, 0, 1, MAX);
        gives("4", x, 0, 0, 0, 0);
        gives("4", x, 3, 0, 7, MIN);
        gives("4", x, 3, 0, 1, 0);
        for (int i : new int[] {-1, 2, MIN, MAX}) {
            due("4: place " + i, x.book(0, i, 1), BAD);
        }
        for (int r : new int[] {-1, 4, MIN, MAX}) {
            due("4: row " + r, x.book(r, 0, 1), BAD);
        }
        x.fresh(0, 1);
        due("4: the row as it is", x.book(0, 0, 6), 1);
        due("4: the row as it is", x.book(0, 1, 6), BAD);
        gives("4: the old row", x, 0, 0, 0, 0);
        gives("4: the old row", x, 0, 0, 1, MAX);
    }

    private static void promise5Flat() {
        ChargeDesk x = new ChargeDesk();
        due("5: flat", x.flat(0, MAX), 1);
        due("5: flat", x.flat(15, MIN), 2);
        due("5: flat over another", x.flat(15, -3), 3);
        gives("5", x, 0, 9, 9, MAX);
        gives("5", x, 15, MIN, MAX, -3);
        for (int place : new int[] {-1, 16, MIN, MAX}) {
            due("5: place " + place, x.flat(place, 1), BAD);
        }
        due("5: made", x.told(0), 3);
    }

    private static void promise6Rated() {
        ChargeDesk x = new ChargeDesk();
        x.rate(7, 4);
        due("6: rated", x.rated(3, 7), 1);
        x.rate(7, 100);
        gives("6: the rate as it was", x, 3, 6, 0, 24);
        x.rate(0, MIN);
        due("6: rated", x.rated(4, 0), 2);
        gives("6: a long", x, 4, MIN, 0, 1L << 62);
        gives("6: a long", x, 4, MAX, 0, (long) MIN * MAX);
        for (int bad : new int[] {-1, 8, MIN, MAX}) {
            due("6: rate " + bad, x.rated(0, bad), BAD);
        }
        for (int bad : new int[] {-1, 16, MIN, MAX}) {
            due("6: place " + bad, x.rated(bad, 0), BAD);
        }
        due("6: made", x.told(0), 2);
    }

    private static void promise7Live() {
        ChargeDesk x = new ChargeDesk();
        x.rate(7, 4);
        due("7: live", x.live(3, 7), 1);
        x.rate(7, 100);
        gives("7: the rate as it is", x, 3, 6, 0, 600);
        x.rate(7, MIN);
        gives("7: a long", x, 3, MIN, 0, 1L << 62);
        for (int bad : new int[] {-1, 8, MIN, MAX}) {
            due("7: rate " + bad, x.live(0, bad), BAD);
        }
        for (int bad : new int[] {-1, 16, MIN, MAX}) {
            due("7: place " + bad, x.live(bad, 0), BAD);
        }
        due("7: made", x.told(0), 1);
    }

    private static void promise8Booked() {
        ChargeDesk x = new ChargeDesk();
        due("8: booked, without places", x.booked(0, 2), 1);
        x.fresh(2, 3);
        fails("8: the row that was", x, 0, 1, 0, INDEX);
        due("8: booked", x.booked(1, 2), 2);
        x.book(2, 2, -9);
        gives("8: booked later, in the same row", x, 1, 1, 2, -9);
        for (int way : new int[] {-1, 3, MIN, MAX}) {
            fails("8: no such place", x, 1, 1, way, INDEX);
        }
        x.fresh(2, 8);
        x.book(2, 2, 77);
        gives("8: the row that was", x, 1, 1, 2, -9);
        fails("8: the row that was", x, 1, 1, 7, INDEX);
        for (int bad : new int[] {-1, 4, MIN, MAX}) {
            due("8: row " + bad, x.booked(0, bad), BAD);
        }
        for (int bad : new int[] {-1, 16, MIN, MAX}) {
            due("8: place " + bad, x.booked(bad, 0), BAD);
        }
    }

    private static long joinedOf(int op, int a, int b) {
        ChargeDesk x = new ChargeDesk();
        x.flat(0, a);
        x.flat(1, b);
        due("9: joined", x.joined(2, op, 0, 1), 3);
        long given = x.ask(2, 1, 1);
        due("9: failed", x.failed(), 0);
        due("9: steps", x.told(1), 3);
        return given;
    }

    private static void promise9Joined() {
        due("9: sum", joinedOf(0, MAX, 8), MAX + 8L);
        due("9: less", joinedOf(1, 3, 8), -5);
        due("9: product", joinedOf(2, MIN, 8), MIN * 8L);
        due("9: by", joinedOf(3, 17, 5), 3);
        due("9: by, cut toward 0", joinedOf(3, -17, 5), -3);
        due("9: by", joinedOf(3, MIN, -1), -(long) MIN);
        due("9: left", joinedOf(4, 17, 5), 2);
        due("9: left", joinedOf(4, -17, 5), -2);
        due("9: left", joinedOf(4, 17, -5), 2);
        due("9: lesser", joinedOf(5, 3, 8), 3);
        due("9: lesser", joinedOf(5, 8, -3), -3);
        ChargeDesk x = new ChargeDesk();
        x.flat(0, 1);
        for (int op : new int[] {-1, 6, MIN, MAX}) {
            due("9: op " + op, x.joined(0, op, 0, 0), BAD);
            due("9: op ahead of NONE " + op, x.joined(0, op, 5, 5), BAD);
        }
        for (int bad : new int[] {-1, 16, MIN, MAX}) {
            due("9: place " + bad, x.joined(bad, 0, 0, 0), BAD);
            due("9: a " + bad, x.joined(1, 0, bad, 0), BAD);
            due("9: b " + bad, x.joined(1, 0, 0, bad), BAD);
            due("9: BAD ahead of NONE", x.joined(1, 0, 5, bad), BAD);
        }
        due("9: a has none", x.joined(0, 0, 5, 0), NONE);
        due("9: b has none", x.joined(0, 0, 0, 5), NONE);
        due("9: made", x.told(0), 1);
        gives("9: what stood stays", x, 0, 1, 1, 1);
    }

    private static void promise9JoinedEdges() {
        ChargeDesk x = new ChargeDesk();
        x.flat(0, MIN);
        x.flat(1, 0);
        x.flat(2, -1);
        x.joined(3, 2, 0, 0);
        x.joined(4, 1, 1, 3);
        x.joined(5, 0, 4, 4);
        gives("9: the least long", x, 5, 0, 0, Long.MIN_VALUE);
        x.joined(6, 3, 5, 2);
        gives("9: by -1 wraps", x, 6, 0, 0, Long.MIN_VALUE);
        x.joined(6, 4, 5, 2);
        gives("9: left of by -1", x, 6, 0, 0, 0);
        x.joined(6, 0, 5, 2);
        gives("9: a sum wraps", x, 6, 0, 0, Long.MAX_VALUE);
        x.joined(6, 1, 1, 5);
        gives("9: less wraps", x, 6, 0, 0, Long.MIN_VALUE);
        x.joined(6, 2, 3, 3);
        gives("9: a product wraps", x, 6, 0, 0, 0);
        x.joined(6, 5, 5, 2);
        gives("9: the lesser of longs", x, 6, 0, 0, Long.MIN_VALUE);
        for (int op = 3; op <= 4; op++) {
            x.joined(6, op, 2, 1);
            fails("9: by 0", x, 6, 0, 0, ZERO);
            steps("9: by 0", x, 3);
            x.joined(6, op, 1, 2);
            gives("9: 0 by another", x, 6, 0, 0, 0);
        }
        x.fresh(0, 1);
        x.booked(7, 0);
        x.barred(8, 0, 0);
        x.joined(9, 0, 7, 8);
        fails("9: a's first", x, 9, 1, 1, INDEX);
        steps("9: b is not asked", x, 2);
        x.joined(9, 0, 8, 7);
        fails("9: a's first", x, 9, 1, 1, BAR);
        x.joined(9, 0, 0, 7);
        fails("9: then b's", x, 9, 1, 1, INDEX);
        x.rate(0, 1);
        x.fresh(1, 4);
        x.book(1, 3, 1000);
        x.live(10, 0);
        x.booked(11, 1);
        x.joined(12, 0, 10, 11);
        gives("9: both for w and d", x, 12, 7, 3, 1007);
        x.joined(12, 1, 11, 10);
        gives("9: both for w and d", x, 12, 7, 3, 993);
    }

    private static void promise10When() {
        ChargeDesk x = new ChargeDesk();
        x.rate(0, 1);
        x.live(0, 0);
        x.flat(1, 11);
        x.flat(2, 22);
        due("10: when", x.when(3, 0, 1, 2), 4);
        gives("10: above 0", x, 3, 1, 0, 11);
        steps("10", x, 3);
        gives("10: 0", x, 3, 0, 0, 22);
        gives("10: below 0", x, 3, -1, 0, 22);
        x.rate(1, 1 << 30);
        x.live(4, 1);
        x.when(5, 4, 1, 2);
        gives("10: above 0 as a long", x, 5, 4, 0, 11);
        gives("10: below 0 as a long", x, 5, -4, 0, 22);
        x.booked(6, 0);
        x.when(7, 6, 1, 2);
        fails("10: a FAILS", x, 7, 1, 0, INDEX);
        steps("10: no more is asked", x, 2);
        x.when(7, 1, 2, 6);
        gives("10: c is not asked", x, 7, 1, 0, 22);
        x.fresh(0, 3);
        x.book(0, 2, 50);
        x.booked(6, 0);
        x.when(7, 1, 6, 2);
        gives("10: b for d", x, 7, 1, 2, 50);
        x.when(7, 6, 1, 2);
        gives("10: a for d", x, 7, 1, 2, 11);
        gives("10: a for d", x, 7, 2, 1, 22);
        x.when(7, 0, 2, 0);
        gives("10: c for w", x, 7, -5, 2, -5);
        due("10: a", x.when(3, 9, 1, 1), NONE);
        due("10: b", x.when(3, 1, 9, 1), NONE);
        due("10: c", x.when(3, 1, 1, 9), NONE);
        for (int bad : new int[] {-1, 16, MIN, MAX}) {
            due("10: place " + bad, x.when(bad, 1, 1, 1), BAD);
            due("10: a " + bad, x.when(3, bad, 9, 1), BAD);
            due("10: b " + bad, x.when(3, 9, bad, 1), BAD);
            due("10: c " + bad, x.when(3, 9, 1, bad), BAD);
        }
    }

    private static void promise11Fixed() {
        ChargeDesk x = new ChargeDesk();
        x.fresh(0, 8);
        x.book(0, 7, 70);
        x.booked(0, 0);
        due("11: fixed", x.fixed(1, 0, 7), 2);
        gives("11", x, 1, 0, -5, 70);
        steps("11", x, 2);
        due("11: any WAY", x.fixed(2, 0, MIN), 3);
        fails("11: any WAY", x, 2, 0, 7, INDEX);
        due("11: any WAY", x.fixed(2, 1, 8), 4);
        gives("11: the inner one is the last", x, 2, 0, 0, 70);
        x.rate(0, 3);
        x.rated(3, 0);
        x.fixed(4, 3, 9);
        gives("11: w stays", x, 4, 5, 1, 15);
        due("11: none", x.fixed(5, 9, 1), NONE);
        for (int bad : new int[] {-1, 16, MIN, MAX}) {
            due("11: place " + bad, x.fixed(bad, 9, 1), BAD);
            due("11: a " + bad, x.fixed(1, bad, 1), BAD);
        }
    }

    private static void promise12Fed() {
        ChargeDesk x = new ChargeDesk();
        x.rate(0, 10);
        x.rate(1, MAX);
        x.rated(0, 0);
        x.rated(1, 1);
        due("12: fed", x.fed(2, 0, 1), 3);
        gives("12: the lowest 32 bits", x, 2, 2, 0, -20);
        gives("12: the lowest 32 bits", x, 2, 4, 0, -40);
        gives("12: the lowest 32 bits", x, 2, 3, 0, 10L * (MAX - 2));
        steps("12", x, 3);
        x.fresh(0, 4);
        x.book(0, 3, 6);
        x.booked(3, 0);
        x.fed(4, 0, 3);
        gives("12: b for d", x, 4, 99, 3, 60);
        x.fed(4, 3, 0);
        gives("12: a for d, not for what b gave", x, 4, 99, 3, 6);
        x.barred(5, 0, 5);
        x.booked(6, 1);
        x.fed(7, 5, 6);
        fails("12: b first", x, 7, 9, 0, INDEX);
        steps("12: a is not asked", x, 2);
        x.fed(7, 6, 5);
        fails("12: b first", x, 7, 9, 0, BAR);
        due("12: a", x.fed(0, 9, 0), NONE);
        due("12: b", x.fed(0, 0, 9), NONE);
        for (int bad : new int[] {-1, 16, MIN, MAX}) {
            due("12: place " + bad, x.fed(bad, 9, 0), BAD);
            due("12: a " + bad, x.fed(1, bad, 9), BAD);
            due("12: b " + bad, x.fed(1, 9, bad), BAD);
        }
    }

    private static void promise13Guarded() {
        ChargeDesk x = new ChargeDesk();
        x.flat(0, 0);
        x.rate(0, 2);
        x.rated(1, 0);
        x.booked(2, 0);
        x.joined(3, 3, 0, 0);
        x.barred(4, 0, MIN);
        x.called(5, 15);
        for (int a = 2; a <= 5; a++) {
            due("13: guarded", x.guarded(6, a, 1), 5 + a);
            gives("13: b's for w, by " + a, x, 6, 21, 0, 42);
        }
        steps("13: a CALLED that had none", x, 4);
        due("13: asks that FAILED", x.told(2), 0);
        x.guarded(6, 1, 2);
        gives("13: a's", x, 6, 8, 0, 16);
        steps("13: b is not asked", x, 2);
        x.guarded(6, 2, 4);
        fails("13: b's FAILS too", x, 6, 8, 0, BAR);
        x.guarded(7, 6, 1);
        gives("13: guarded twice", x, 7, 8, 0, 16);
        x.joined(8, 0, 7, 2);
        fails("13: guarded, then failing", x, 8, 8, 0, INDEX);
        x.fresh(0, 3);
        x.book(0, 2, 5);
        x.booked(9, 0);
        x.guarded(10, 2, 9);
        gives("13: b's for d", x, 10, 8, 2, 5);
        x.guarded(10, 9, 1);
        gives("13: a's for d", x, 10, 8, 2, 5);
        x.called(11, 11);
        x.guarded(12, 11, 1);
        fails("13: not by DEEP", x, 12, 1, 1, DEEP);
        steps("13: not by DEEP", x, 25);
        due("13: a", x.guarded(0, 14, 0), NONE);
        due("13: b", x.guarded(0, 0, 14), NONE);
        for (int bad : new int[] {-1, 16, MIN, MAX}) {
            due("13: place " + bad, x.guarded(bad, 14, 0), BAD);
            due("13: a " + bad, x.guarded(1, bad, 14), BAD);
            due("13: b " + bad, x.guarded(1, 14, bad), BAD);
        }
    }

    private static void promise14Called() {
        ChargeDesk x = new ChargeDesk();
        due("14: called, of none", x.called(0, 15), 1);
        fails("14: none", x, 0, 1, 1, NONE);
        steps("14: none", x, 2);
        x.rate(0, 3);
        x.rated(15, 0);
        gives("14: what is there now, for w", x, 0, 5, 0, 15);
        steps("14", x, 2);
        x.fresh(0, 2);
        x.book(0, 1, 8);
        x.booked(15, 0);
        gives("14: what is there now, for d", x, 0, 5, 1, 8);
        x.take(15);
        fails("14: none again", x, 0, 1, 1, NONE);
        due("14: of itself", x.called(1, 1), 4);
        fails("14: of itself", x, 1, 1, 1, DEEP);
        for (int bad : new int[] {-1, 16, MIN, MAX}) {
            due("14: place " + bad, x.called(bad, 0), BAD);
            due("14: k " + bad, x.called(0, bad), BAD);
        }
        due("14: made", x.told(0), 4);
    }

    private static void promise15Barred() {
        ChargeDesk x = new ChargeDesk();
        x.fresh(0, 2);
        x.book(0, 1, 8);
        x.booked(0, 0);
        due("15: barred", x.barred(1, 0, -4), 2);
        fails("15: above", x, 1, -3, 1, BAR);
        steps("15: a is not asked", x, 1);
        fails("15: above", x, 1, MAX, 1, BAR);
        gives("15: the same", x, 1, -4, 1, 8);
        steps("15", x, 2);
        gives("15: below", x, 1, MIN, 1, 8);
        fails("15: BAR ahead of a's", x, 1, 0, 5, BAR);
        fails("15: a's", x, 1, -9, 5, INDEX);
        x.barred(2, 0, MAX);
        gives("15: never above", x, 2, MAX, 1, 8);
        x.barred(2, 0, MIN);
        fails("15: nearly always above", x, 2, MIN + 1, 1, BAR);
        gives("15: the same", x, 2, MIN, 1, 8);
        x.rate(0, 3);
        x.rated(3, 0);
        x.barred(4, 3, 10);
        gives("15: a's for w", x, 4, 10, 0, 30);
        due("15: none", x.barred(0, 9, 1), NONE);
        for (int bad : new int[] {-1, 16, MIN, MAX}) {
            due("15: place " + bad, x.barred(bad, 9, 1), BAD);
            due("15: a " + bad, x.barred(0, bad, 1), BAD);
        }
    }

    private static void promise16Counted() {
        ChargeDesk x = new ChargeDesk();
        x.fresh(0, 2);
        x.book(0, 1, 100);
        x.booked(0, 0);
        due("16: counted", x.counted(1, 0), 2);
        due("16: counted", x.counted(2, 0), 3);
        due("16: 0 at first", x.count(1), 0);
        gives("16", x, 1, 0, 1, 101);
        steps("16", x, 2);
        gives("16", x, 1, 0, 1, 102);
        fails("16: a FAILS", x, 1, 0, 9, INDEX);
        due("16: its COUNT stays", x.count(1), 3);
        gives("16", x, 1, 0, 1, 104);
        due("16: its own", x.count(2), 0);
        x.joined(3, 0, 1, 1);
        gives("16: twice in one ask", x, 3, 0, 1, 105 + 106);
        x.counted(4, 1);
        gives("16: counted twice", x, 4, 0, 1, 107 + 1);
        x.rate(0, 3);
        x.rated(5, 0);
        x.counted(6, 5);
        gives("16: a's for w", x, 6, 7, 0, 22);
        due("16: none", x.counted(0, 9), NONE);
        for (int bad : new int[] {-1, 16, MIN, MAX}) {
            due("16: place " + bad, x.counted(bad, 9), BAD);
            due("16: a " + bad, x.counted(0, bad), BAD);
        }
    }

    /** A desk where PLACE 5 holds w times 10 below load 1, and else asks PLACE 6 for w - 1. */
    private static ChargeDesk deskThatCallsSix() {
        ChargeDesk x = new ChargeDesk();
        x.rate(0, 1);
        x.rate(1, 10);
        x.live(0, 0);
        x.flat(1, 1);
        x.joined(2, 1, 0, 1);
        x.called(3, 6);
        x.fed(3, 3, 2);
        x.rated(4, 1);
        x.when(5, 0, 3, 4);
        return x;
    }

    private static void promise16CountedAskedWithinItself() {
        ChargeDesk x = deskThatCallsSix();
        x.counted(6, 5);
        // The innermost reads COUNT 3, and so do the two around it: all three have begun by then.
        gives("16: COUNT as it is behind a's", x, 6, 2, 0, 9);
        due("16: count", x.count(6), 3);
    }

    private static void promise17Kept() {
        ChargeDesk x = new ChargeDesk();
        x.fresh(0, 3);
        x.book(0, 1, 100);
        x.booked(0, 0);
        x.counted(1, 0);
        due("17: kept", x.kept(2, 1), 3);
        gives("17: first, for 0, 0", x, 2, 0, 0, 1);
        gives("17: asked", x, 2, 7, 1, 102);
        steps("17: asked", x, 3);
        x.book(0, 1, 200);
        gives("17: again", x, 2, 7, 1, 102);
        steps("17: a is not asked", x, 1);
        fails("17: a FAILS", x, 2, 7, 9, INDEX);
        gives("17: what was kept stays when a FAILS", x, 2, 7, 1, 102);
        fails("17: no failure is kept", x, 2, 7, 9, INDEX);
        steps("17: no failure is kept", x, 3);
        gives("17: another w", x, 2, 8, 1, 205);
        gives("17: the latest alone is kept", x, 2, 7, 1, 206);
        gives("17: another d", x, 2, 7, 2, 7);
        gives("17: another d, kept", x, 2, 7, 2, 7);
        due("17: count", x.count(1), 7);
        x.kept(3, 1);
        gives("17: its own", x, 3, 7, 2, 8);
        gives("17: its own", x, 2, 7, 2, 7);
        x.booked(4, 1);
        x.kept(5, 4);
        fails("17: nothing kept yet", x, 5, 0, 0, INDEX);
        x.flat(6, 0);
        x.kept(7, 6);
        gives("17: a kept 0", x, 7, 1, 1, 0);
        gives("17: a kept 0", x, 7, 1, 1, 0);
        steps("17: a kept 0", x, 1);
        due("17: none", x.kept(0, 9), NONE);
        for (int bad : new int[] {-1, 16, MIN, MAX}) {
            due("17: place " + bad, x.kept(bad, 9), BAD);
            due("17: a " + bad, x.kept(0, bad), BAD);
        }
    }

    private static void promise17KeptAskedWithinItself() {
        ChargeDesk x = deskThatCallsSix();
        x.counted(5, 5);
        x.kept(6, 5);
        gives("17: within itself", x, 6, 1, 0, 4);
        gives("17: the outer one came last", x, 6, 1, 0, 4);
        steps("17: the outer one came last", x, 1);
        gives("17: the inner one again", x, 6, 0, 0, 3);
        steps("17: the inner one again", x, 5);
        gives("17: the inner one is kept for the outer", x, 6, 1, 0, 3 + 4);
        steps("17: the inner one is kept for the outer", x, 10);
    }

    private static void promise18Put() {
        ChargeDesk x = new ChargeDesk();
        x.flat(0, 5);
        x.counted(1, 0);
        due("18: put", x.put(1, 15), 1);
        due("18: the same", x.same(1, 15), 1);
        gives("18", x, 15, 0, 0, 6);
        due("18: one COUNT", x.count(1), 1);
        due("18: none was made", x.told(0), 2);
        due("18: places", x.told(3), 3);
        due("18: over another", x.put(0, 15), 1);
        gives("18: over another", x, 15, 0, 0, 5);
        due("18: onto itself", x.put(0, 0), 1);
        gives("18: onto itself", x, 0, 0, 0, 5);
        due("18: none", x.put(9, 0), NONE);
        due("18: none", x.put(9, 9), NONE);
        for (int bad : new int[] {-1, 16, MIN, MAX}) {
            due("18: from " + bad, x.put(bad, 0), BAD);
            due("18: to " + bad, x.put(0, bad), BAD);
            due("18: BAD ahead of NONE", x.put(9, bad), BAD);
        }
        gives("18: refused", x, 0, 0, 0, 5);
    }

    private static void promise19Take() {
        ChargeDesk x = new ChargeDesk();
        x.flat(0, 5);
        x.counted(15, 0);
        due("19: take", x.take(0), 1);
        due("19: had none", x.take(0), NONE);
        due("19: places", x.told(3), 1);
        due("19: made", x.told(0), 2);
        gives("19: who holds it goes on", x, 15, 0, 0, 6);
        due("19: take", x.take(15), 1);
        due("19: places", x.told(3), 0);
        for (int bad : new int[] {-1, 16, MIN, MAX}) {
            due("19: place " + bad, x.take(bad), BAD);
        }
    }

    private static void promise20Ask() {
        ChargeDesk x = new ChargeDesk();
        x.flat(15, 3);
        gives("20", x, 15, 0, 0, 3);
        steps("20", x, 1);
        for (int bad : new int[] {-1, 16, MIN, MAX}) {
            gives("20", x, 15, 0, 0, 3);
            due("20: refused", x.ask(bad, 1, 1), 0);
            due("20: refused", x.failed(), BAD);
            steps("20: refused", x, 0);
        }
        gives("20", x, 15, 0, 0, 3);
        due("20: none", x.ask(0, 1, 1), 0);
        due("20: none", x.failed(), NONE);
        steps("20: none", x, 0);
        due("20: refused, not FAILED", x.told(2), 0);
        x.booked(0, 0);
        fails("20: FAILS", x, 0, 1, 1, INDEX);
        steps("20: FAILS", x, 1);
    }

    private static void promise21Failed() {
        ChargeDesk x = new ChargeDesk();
        due("21: there was none", x.failed(), 0);
        x.flat(0, 0);
        x.booked(1, 0);
        fails("21", x, 1, 0, 0, INDEX);
        x.flat(2, 1);
        x.take(2);
        x.told(1);
        x.rate(9, 9);
        due("21: others change nothing", x.failed(), INDEX);
        due("21: asked twice", x.failed(), INDEX);
        gives("21: it gave 0", x, 0, 0, 0, 0);
        due("21: refused", x.ask(2, 0, 0), 0);
        due("21: refused", x.failed(), NONE);
        fails("21", x, 1, 0, 0, INDEX);
        due("21: refused", x.ask(16, 0, 0), 0);
        due("21: refused", x.failed(), BAD);
        gives("21: it gave 0", x, 0, 0, 0, 0);
    }

    private static void promise22Same() {
        ChargeDesk x = new ChargeDesk();
        x.flat(0, 5);
        x.flat(1, 5);
        due("22: as good as, but another", x.same(0, 1), 0);
        due("22: itself", x.same(0, 0), 1);
        x.put(0, 15);
        due("22: put", x.same(0, 15), 1);
        due("22: put", x.same(15, 0), 1);
        due("22: one has none", x.same(0, 9), 0);
        due("22: one has none", x.same(9, 0), 0);
        due("22: both have none", x.same(9, 10), 0);
        due("22: none", x.same(9, 9), 0);
        x.flat(0, 5);
        due("22: no more", x.same(0, 15), 0);
        for (int bad : new int[] {-1, 16, MIN, MAX}) {
            due("22: a " + bad, x.same(bad, 0), BAD);
            due("22: b " + bad, x.same(0, bad), BAD);
            due("22: both " + bad, x.same(bad, bad), BAD);
        }
    }

    private static void promise23Count() {
        ChargeDesk x = new ChargeDesk();
        x.flat(0, 5);
        x.counted(1, 0);
        x.kept(2, 1);
        due("23: 0 at first", x.count(1), 0);
        x.ask(2, 0, 0);
        x.ask(2, 0, 1);
        due("23", x.count(1), 2);
        due("23: another kind", x.count(0), NONE);
        due("23: another kind that holds one", x.count(2), NONE);
        due("23: none", x.count(15), NONE);
        x.called(3, 1);
        due("23: another kind that calls one", x.count(3), NONE);
        x.counted(1, 0);
        due("23: a new one", x.count(1), 0);
        for (int bad : new int[] {-1, 16, MIN, MAX}) {
            due("23: place " + bad, x.count(bad), BAD);
        }
    }

    private static void promise24Told() {
        ChargeDesk x = new ChargeDesk();
        for (int place = 0; place < 16; place++) {
            x.flat(place, 1);
            due("24: made", x.told(0), place + 1);
            due("24: places", x.told(3), place + 1);
        }
        x.flat(0, 1);
        due("24: made", x.told(0), 17);
        due("24: places", x.told(3), 16);
        x.joined(0, 0, 1, 2);
        x.ask(0, 0, 0);
        due("24: steps", x.told(1), 3);
        x.flat(0, 1);
        due("24: steps, of the latest ask", x.told(1), 3);
        x.ask(0, 0, 0);
        due("24: steps, of the latest ask", x.told(1), 1);
        x.ask(16, 0, 0);
        due("24: refused", x.told(1), 0);
        due("24: refused", x.told(2), 0);
        x.booked(0, 0);
        x.ask(0, 0, 0);
        x.ask(0, 0, 0);
        x.ask(1, 0, 0);
        due("24: failed", x.told(2), 2);
        for (int bad : new int[] {-1, 4, MIN, MAX}) {
            due("24: what " + bad, x.told(bad), BAD);
        }
    }

    private static void promise25Clear() {
        ChargeDesk x = new ChargeDesk();
        due("25: of a new one", x.clear(), 0);
        x.flat(15, 1);
        x.rate(0, 5);
        x.rate(7, 5);
        x.fresh(0, 8);
        x.fresh(3, 8);
        x.booked(0, 3);
        x.kept(1, 15);
        x.ask(0, 0, 8);
        due("25: failed before", x.failed(), INDEX);
        due("25: clear", x.clear(), 3);
        for (int what = 0; what < 4; what++) {
            due("25: told " + what, x.told(what), 0);
        }
        due("25: failed", x.failed(), 0);
        for (int place = 0; place < 16; place++) {
            due("25: place " + place, x.take(place), NONE);
        }
        for (int r = 0; r < 4; r++) {
            due("25: row " + r, x.book(r, 0, 1), BAD);
        }
        due("25: made from 1 again", x.live(0, 0), 1);
        x.live(1, 7);
        gives("25: rate 0", x, 0, 1, 0, 0);
        gives("25: rate 7", x, 1, 1, 0, 0);
        due("25: clear", x.clear(), 2);
        due("25: again", x.clear(), 0);
    }

    /** Makes PLACE 5 ask 2 * 2^5 - 1 = 63 RULES, PLACE n 2 * 2^n - 1, each FLAT 1 at the ends. */
    private static ChargeDesk doubling() {
        ChargeDesk x = new ChargeDesk();
        x.flat(0, 1);
        for (int n = 1; n <= 5; n++) {
            x.joined(n, 0, n - 1, n - 1);
        }
        return x;
    }

    private static void termsTired() {
        ChargeDesk x = doubling();
        gives("terms: 63 steps", x, 5, 0, 0, 32);
        steps("terms: 63", x, 63);
        x.joined(6, 0, 5, 3);
        gives("terms: 79 steps", x, 6, 0, 0, 40);
        steps("terms: 79", x, 79);
        x.fixed(7, 6, 0);
        gives("terms: 80 steps", x, 7, 0, 0, 40);
        steps("terms: 80", x, 80);
        x.fixed(8, 7, 0);
        fails("terms: 81 steps", x, 8, 0, 0, TIRED);
        steps("terms: 81", x, 80);
        x.guarded(9, 7, 0);
        fails("terms: TIRED is not guarded", x, 9, 0, 0, TIRED);
        steps("terms: TIRED is not guarded", x, 80);
        x.booked(10, 0);
        x.joined(11, 0, 6, 10);
        fails("terms: one too many, ahead of INDEX", x, 11, 0, 0, TIRED);
        gives("terms: each ask has its own 80", x, 7, 0, 0, 40);
    }

    /** Makes PLACE 1 a chain of so many FIXED on FLAT 4, which with it is one deeper. */
    private static ChargeDesk chain(int links) {
        ChargeDesk x = new ChargeDesk();
        x.flat(1, 4);
        for (int i = 0; i < links; i++) {
            x.fixed(1, 1, 0);
        }
        return x;
    }

    private static void termsDeep() {
        ChargeDesk x = chain(23);
        gives("terms: 24 deep", x, 1, 0, 0, 4);
        steps("terms: 24 deep", x, 24);
        x.fixed(2, 1, 0);
        fails("terms: 25 deep", x, 2, 0, 0, DEEP);
        steps("terms: the one too deep is a STEP", x, 25);
        x.guarded(2, 1, 1);
        fails("terms: DEEP is not guarded", x, 2, 0, 0, DEEP);
        steps("terms: DEEP is not guarded", x, 25);
        x = chain(22);
        x.joined(2, 0, 1, 1);
        gives("terms: what has given is not deep", x, 2, 0, 0, 8);
        steps("terms: what has given is not deep", x, 47);
        x.booked(3, 0);
        x.guarded(4, 3, 1);
        gives("terms: a that FAILED is not deep", x, 4, 0, 0, 4);
        steps("terms: a that FAILED is not deep", x, 25);
        x.kept(5, 1);
        x.ask(5, 0, 0);
        for (int i = 0; i < 23; i++) {
            x.fixed(5, 5, 0);
        }
        gives("terms: what is kept is not deep", x, 5, 0, 0, 4);
    }

    private static void termsTiredAheadOfDeep() {
        ChargeDesk x = doubling();
        x.joined(7, 0, 4, 3);
        x.joined(7, 0, 7, 2);
        gives("terms: 55 steps", x, 7, 0, 0, 28);
        steps("terms: 55 steps", x, 55);
        x.called(8, 8);
        x.joined(9, 0, 7, 8);
        fails("terms: 56 steps, then 23 and DEEP at the 80th", x, 9, 0, 0, DEEP);
        steps("terms: DEEP", x, 80);
        x.fixed(7, 7, 0);
        x.joined(9, 0, 7, 8);
        fails("terms: 57 steps, then 23 and the 81st is both", x, 9, 0, 0, TIRED);
        steps("terms: TIRED", x, 80);
    }

    private static void termsEmptyPlaceIsAsked() {
        ChargeDesk x = new ChargeDesk();
        x.called(1, 15);
        for (int i = 0; i < 22; i++) {
            x.fixed(1, 1, 0);
        }
        fails("terms: none, 24 deep", x, 1, 0, 0, NONE);
        steps("terms: none, 24 deep", x, 24);
        x.fixed(1, 1, 0);
        fails("terms: none, 25 deep", x, 1, 0, 0, DEEP);
        steps("terms: none, 25 deep", x, 25);
        x = doubling();
        x.called(7, 15);
        x.joined(8, 0, 5, 2);
        x.joined(9, 0, 8, 7);
        fails("terms: none at the 74th", x, 9, 0, 0, NONE);
        steps("terms: none at the 74th", x, 74);
        for (int i = 0; i < 6; i++) {
            x.fixed(8, 8, 0);
        }
        x.joined(9, 0, 8, 7);
        fails("terms: none at the 80th", x, 9, 0, 0, NONE);
        steps("terms: none at the 80th", x, 80);
        x.fixed(8, 8, 0);
        x.joined(9, 0, 8, 7);
        fails("terms: none at the 81st", x, 9, 0, 0, TIRED);
        steps("terms: none at the 81st", x, 80);
    }

    private static void termsWhatWasChangedStays() {
        ChargeDesk x = new ChargeDesk();
        x.flat(0, 4);
        x.counted(1, 0);
        x.kept(2, 1);
        x.called(3, 3);
        x.joined(4, 0, 2, 3);
        fails("terms: DEEP behind a kept one", x, 4, 6, 6, DEEP);
        due("terms: COUNT stays", x.count(1), 1);
        gives("terms: what is kept stays", x, 2, 6, 6, 5);
        steps("terms: what is kept stays", x, 1);
        x.called(5, 6);
        x.counted(6, 5);
        fails("terms: counted down to DEEP", x, 6, 0, 0, DEEP);
        due("terms: counted down to DEEP", x.count(6), 12);
    }

    private static void termsRulesHoldRules() {
        ChargeDesk x = new ChargeDesk();
        x.flat(0, 4);
        due("terms: made of what it takes the place of", x.counted(0, 0), 2);
        gives("terms: made of what it takes the place of", x, 0, 0, 0, 5);
        x.joined(0, 2, 0, 0);
        gives("terms: likewise", x, 0, 0, 0, 6 * 7);
        x.flat(1, 9);
        x.when(2, 1, 1, 0);
        x.flat(1, -9);
        gives("terms: who holds that goes on with it", x, 2, 0, 0, 9);
        x.put(2, 1);
        gives("terms: who holds that goes on with it", x, 2, 0, 0, 9);
        x.take(1);
        gives("terms: who holds that goes on with it", x, 2, 0, 0, 9);
    }

    private static void termsRefusalsChangeNothing() {
        ChargeDesk x = new ChargeDesk();
        x.flat(0, 4);
        x.ask(0, 0, 0);
        x.flat(16, 1);
        x.rated(0, 8);
        x.live(0, 8);
        x.booked(0, 4);
        x.joined(0, 6, 0, 0);
        x.joined(0, 0, 0, 1);
        x.when(0, 0, 0, 1);
        x.fixed(0, 1, 0);
        x.fed(0, 0, 1);
        x.guarded(0, 0, 1);
        x.called(0, 16);
        x.barred(0, 1, 0);
        x.counted(0, 1);
        x.kept(0, 1);
        x.put(1, 0);
        x.take(1);
        due("terms: refused, made", x.told(0), 1);
        due("terms: refused, steps", x.told(1), 1);
        due("terms: refused, places", x.told(3), 1);
        gives("terms: refused, what stood", x, 0, 0, 0, 4);
    }
}
