import java.util.ArrayList;
import java.util.Arrays;
import java.util.List;
import java.util.Random;

/**
 * Many runs of up to 512 calls, from fixed seeds, on a ChargeDesk and on a second writing of the document
 * that shares nothing with it: rules are functions there, and what FAILS is thrown.
 */
public final class ChargeDeskAgainstModel {
    private static final int RUNS = 20000;
    /** With failed() and told(1) behind each ask, no run goes beyond the 512 calls that the document promises. */
    private static final int CALLS = 510;
    private static final int[] EDGES = {
        Integer.MIN_VALUE, Integer.MIN_VALUE + 1, -2, -1, 0, 1, 2, 3, 7, 8, 16, 65536, Integer.MAX_VALUE - 1, Integer.MAX_VALUE,
    };

    private static final class Fail extends Exception {
        private static final long serialVersionUID = 1L;
        final int why;

        Fail(int why) {
            super(null, null, false, false);
            this.why = why;
        }
    }

    private interface Rule {
        long give(int w, int d) throws Fail;
    }

    private static final class Model {
        private final int[] rates = new int[8];
        private final int[][] rows = {{}, {}, {}, {}};
        private final Rule[] places = new Rule[16];
        private final List<Object[]> counts = new ArrayList<>();
        private int made, steps, open, failures, failed;

        private static boolean place(int p) {
            return p >= 0 && p <= 15;
        }

        private long askFor(Rule rule, int w, int d) throws Fail {
            if (steps == 80) {
                throw new Fail(-6);
            }
            steps++;
            if (open == 24) {
                throw new Fail(-7);
            }
            if (rule == null) {
                throw new Fail(-2);
            }
            open++;
            try {
                return rule.give(w, d);
            } finally {
                open--;
            }
        }

        private int[] countOf(Rule rule) {
            for (Object[] pair : counts) {
                if (pair[0] == rule) {
                    return (int[]) pair[1];
                }
            }
            return null;
        }

        private int make(int p, Rule rule) {
            places[p] = rule;
            return ++made;
        }

        private static long join(int op, long a, long b) throws Fail {
            if ((op == 3 || op == 4) && b == 0) {
                throw new Fail(-3);
            }
            return op == 0 ? a + b : op == 1 ? a - b : op == 2 ? a * b : op == 3 ? a / b : op == 4 ? a % b : a < b ? a : b;
        }

        private int refuse(int p, int... held) {
            boolean bad = !place(p);
            boolean none = false;
            for (int h : held) {
                bad |= !place(h);
                none |= place(h) && places[h] == null;
            }
            return bad ? -1 : none ? -2 : 0;
        }

        private int makeOf(int call, int p, int q, int r, int s) {
            int[][] held = {{q}, {q, r}, {q, r, s}, {r, s}};
            int which = call == 7 ? 3 : call == 8 ? 2 : call == 10 || call == 11 ? 1 : 0;
            int refused = refuse(p, held[which]);
            if (call == 7 && (q < 0 || q > 5)) {
                refused = -1;
            }
            if (refused != 0) {
                return refused;
            }
            Rule a = places[held[which][0]];
            Rule b = which == 0 ? null : places[held[which][1]];
            Rule c = which == 2 ? places[s] : null;
            switch (call) {
                case 7:
                    return make(p, (w, d) -> join(q, askFor(a, w, d), askFor(b, w, d)));
                case 8:
                    return make(p, (w, d) -> askFor(askFor(a, w, d) > 0 ? b : c, w, d));
                case 9:
                    return make(p, (w, d) -> askFor(a, w, r));
                case 10:
                    return make(p, (w, d) -> askFor(a, (int) askFor(b, w, d), d));
                case 11:
                    return make(p, (w, d) -> {
                        try {
                            return askFor(a, w, d);
                        } catch (Fail f) {
                            if (f.why == -6 || f.why == -7) {
                                throw f;
                            }
                        }
                        return askFor(b, w, d);
                    });
                case 13:
                    return make(p, (w, d) -> {
                        if (w > r) {
                            throw new Fail(-5);
                        }
                        return askFor(a, w, d);
                    });
                case 14: {
                    int[] count = new int[1];
                    Rule counted = (w, d) -> {
                        count[0]++;
                        long given = askFor(a, w, d);
                        return given + count[0];
                    };
                    counts.add(new Object[] {counted, count});
                    return make(p, counted);
                }
                default: {
                    long[][] kept = new long[1][];
                    return make(p, (w, d) -> {
                        if (kept[0] == null || kept[0][0] != w || kept[0][1] != d) {
                            kept[0] = new long[] {w, d, askFor(a, w, d)};
                        }
                        return kept[0][2];
                    });
                }
            }
        }

        private int makeAlone(int call, int p, int q) {
            if (!place(p)) {
                return -1;
            }
            if (call == 3) {
                return make(p, (w, d) -> q);
            }
            if (q < 0 || q >= (call == 6 ? 4 : call == 12 ? 16 : 8)) {
                return -1;
            }
            if (call == 4) {
                long then = rates[q];
                return make(p, (w, d) -> w * then);
            }
            if (call == 5) {
                return make(p, (w, d) -> w * (long) rates[q]);
            }
            if (call == 12) {
                return make(p, (w, d) -> askFor(places[q], w, d));
            }
            int[] row = rows[q];
            return make(p, (w, d) -> {
                if (d < 0 || d >= row.length) {
                    throw new Fail(-4);
                }
                return row[d];
            });
        }

        private long ask(int p, int w, int d) {
            steps = 0;
            open = 0;
            failed = !place(p) ? -1 : places[p] == null ? -2 : 0;
            if (failed != 0) {
                return 0;
            }
            try {
                return askFor(places[p], w, d);
            } catch (Fail f) {
                failed = f.why;
                failures++;
                return 0;
            }
        }

        private int clear() {
            int was = made;
            Arrays.fill(rates, 0);
            Arrays.fill(rows, new int[0]);
            Arrays.fill(places, null);
            counts.clear();
            made = steps = failures = failed = 0;
            return was;
        }

        private int putOrTake(int call, int p, int q) {
            boolean puts = call == 16;
            if (!place(p) || puts && !place(q)) {
                return -1;
            }
            if (places[p] == null) {
                return -2;
            }
            places[puts ? q : p] = puts ? places[p] : null;
            return 1;
        }

        long call(int call, int p, int q, int r, int s) {
            switch (call) {
                case 0:
                    if (p < 0 || p > 7) {
                        return -1;
                    }
                    rates[p] = q;
                    return 1;
                case 1:
                    if (p < 0 || p > 3 || q < 0 || q > 8) {
                        return -1;
                    }
                    rows[p] = new int[q];
                    return 1;
                case 2:
                    if (p < 0 || p > 3 || q < 0 || q >= rows[p].length) {
                        return -1;
                    }
                    rows[p][q] = r;
                    return 1;
                case 3: case 4: case 5: case 6: case 12:
                    return makeAlone(call, p, q);
                case 16: case 17:
                    return putOrTake(call, p, q);
                case 18:
                    return ask(p, q, r);
                case 19:
                    return failed;
                case 20:
                    return !place(p) || !place(q) ? -1 : places[p] != null && places[p] == places[q] ? 1 : 0;
                case 21:
                    return !place(p) ? -1 : countOf(places[p]) == null ? -2 : countOf(places[p])[0];
                case 22: {
                    int taken = 0;
                    for (Rule rule : places) {
                        taken += rule == null ? 0 : 1;
                    }
                    int[] told = {made, steps, failures, taken};
                    return p < 0 || p > 3 ? -1 : told[p];
                }
                case 23:
                    return clear();
                default:
                    return makeOf(call, p, q, r, s);
            }
        }
    }

    private static long call(ChargeDesk x, int call, int p, int q, int r, int s) {
        switch (call) {
            case 0: return x.rate(p, q);
            case 1: return x.fresh(p, q);
            case 2: return x.book(p, q, r);
            case 3: return x.flat(p, q);
            case 4: return x.rated(p, q);
            case 5: return x.live(p, q);
            case 6: return x.booked(p, q);
            case 7: return x.joined(p, q, r, s);
            case 8: return x.when(p, q, r, s);
            case 9: return x.fixed(p, q, r);
            case 10: return x.fed(p, q, r);
            case 11: return x.guarded(p, q, r);
            case 12: return x.called(p, q);
            case 13: return x.barred(p, q, r);
            case 14: return x.counted(p, q);
            case 15: return x.kept(p, q);
            case 16: return x.put(p, q);
            case 17: return x.take(p);
            case 18: return x.ask(p, q, r);
            case 19: return x.failed();
            case 20: return x.same(p, q);
            case 21: return x.count(p);
            case 22: return x.told(p);
            default: return x.clear();
        }
    }

    /** Few numbers near 0, so that loads, ways and places meet again; at times an edge. */
    private static int number(Random random, int span, int wild) {
        return random.nextInt(wild) == 0 ? EDGES[random.nextInt(EDGES.length)] : random.nextInt(span);
    }

    private static int pickCall(Random random) {
        int roll = random.nextInt(100);
        if (roll < 30) {
            return 18;
        }
        if (roll < 42) {
            return 19 + random.nextInt(4);
        }
        if (roll < 50) {
            return random.nextInt(3);
        }
        if (roll < 53) {
            return 16 + random.nextInt(2);
        }
        return random.nextInt(400) == 0 ? 23 : 3 + random.nextInt(13);
    }

    private static boolean runAgrees(int seed, int[] seen) {
        Random random = new Random(seed);
        ChargeDesk desk = new ChargeDesk();
        Model model = new Model();
        int span = 4 + random.nextInt(13);
        int wild = random.nextBoolean() ? 12 : 60;
        for (int i = 0; i < CALLS; i++) {
            int call = pickCall(random);
            int first = call < 2 ? 8 : call == 2 ? 4 : call == 22 ? 5 : span;
            int p = number(random, first, wild);
            int q = number(random, call == 7 || call == 18 ? 6 : call == 6 ? 4 : call == 4 || call == 5 ? 8 : span, wild);
            int r = number(random, call == 18 ? 6 : span, wild);
            int s = number(random, span, wild);
            long got = call(desk, call, p, q, r, s);
            long want = model.call(call, p, q, r, s);
            if (got != want) {
                System.out.println("seed " + seed + ", call " + i + ": call " + call + " (" + p + ", " + q + ", " + r + ", " + s
                    + ") answered " + got + ", due is " + want);
                return false;
            }
            if (call == 18) {
                seen[-model.failed]++;
                i += 2;
                if (desk.failed() != model.failed || desk.told(1) != model.steps) {
                    System.out.println("seed " + seed + ", call " + i + ": behind ask(" + p + ", " + q + ", " + r + ") failed() is "
                        + desk.failed() + ", told(1) " + desk.told(1) + "; due is " + model.failed + ", " + model.steps);
                    return false;
                }
            }
        }
        return true;
    }

    public static void main(String[] args) {
        int wrong = 0;
        int[] seen = new int[8];
        for (int seed = 1; seed <= RUNS; seed++) {
            if (!runAgrees(seed, seen)) {
                wrong++;
            }
        }
        for (int why = 0; why < seen.length; why++) {
            // Runs that never meet one of the ways to fail would prove nothing about it.
            if (seen[why] < 100) {
                wrong++;
                System.out.println("only " + seen[why] + " asks ended with " + -why);
            }
        }
        System.out.println("asks by what failed() told, 0 to -7: " + Arrays.toString(seen));
        System.out.println(wrong == 0 ? "all runs agree" : wrong + " faults");
        if (wrong != 0) {
            System.exit(1);
        }
    }
}
