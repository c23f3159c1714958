import java.math.BigInteger;
import java.util.Collections;
import java.util.HashMap;
import java.util.Map;
import java.util.Random;

/** Promises 17 to 29 and 32 to 35 on many states, held against the model. */
public final class AgreementTest {
    private static final Check check = new Check();
    private static final Random random = new Random(20261118);

    public static void main(String[] args) {
        for (int i = 0; i < 400; i++) {
            SpringBeads x = state();
            Model m = Model.of(x);
            runs(x, m);
            places(x, m);
            best(x, m);
            swaps(x, m);
            misses(x, m);
            odds(x, m);
            seen(x, m);
            drift(x, m);
            ticks(x, m);
        }
        check.end();
    }

    private static int upTo(int most) {
        return random.nextInt(most + 1);
    }

    private static SpringBeads state() {
        SpringBeads x = new SpringBeads();
        int beads = upTo(4);
        for (int b = 0; b < beads; b++) {
            x.bind(upTo(3), upTo(60), upTo(9), 1 + upTo(8));
            if (upTo(3) == 0) {
                x.alter(b, 4, upTo(300));
            }
            if (upTo(2) == 0) {
                Make.speed(x, b, upTo(80) - 40);
            }
        }
        int knocks = upTo(1) == 0 ? upTo(3) : upTo(12);
        for (int i = 0; i < knocks; i++) {
            x.add(upTo(3), upTo(18));
        }
        x.drag(upTo(3));
        x.ticks(upTo(1) == 0 ? 0 : upTo(20));
        return x;
    }

    private static void runs(SpringBeads x, Model m) {
        for (int n : new int[] {0, 1, 2, upTo(200), 200}) {
            Model then = m.copy().ticks(n);
            check.due("runs(n, 0)", x.runs(n, 0), then.gone);
            check.due("runs(n, 1)", x.runs(n, 1), m.swing(n));
            check.due("runs(n, 2)", x.runs(n, 2), then.last());
            check.due("runs(n, 3)", x.runs(n, 3), then.stops);
            for (int b = 0; b < m.beads.size(); b++) {
                check.due("ahead(b, n, 0)", x.ahead(b, n, 0), then.beads.get(b).at());
                check.due("ahead(b, n, 1)", x.ahead(b, n, 1), 100 + then.beads.get(b).speed());
            }
        }
    }

    private static void places(SpringBeads x, Model m) {
        for (int b = 0; b < m.beads.size(); b++) {
            int v = Math.max(0, Math.min(300, m.beads.get(b).at() + upTo(60) - 30));
            boolean further = v >= m.beads.get(b).at();
            int want = SpringBeads.NONE;
            Model then = m.copy();
            for (int t = 0; t <= 200 && want == SpringBeads.NONE; t++) {
                int at = then.beads.get(b).at();
                if (at == v || further && at > v || !further && at < v) {
                    want = t;
                }
                then.tick();
            }
            check.due("when(b, v)", x.when(b, v), want);
        }
        int want = SpringBeads.NONE;
        Model then = m.copy();
        for (int t = 0; t <= 200 && want == SpringBeads.NONE; t++) {
            Model next = then.copy().tick(null);
            if (next.beads.equals(then.beads)) {
                want = t;
            }
            then = next;
        }
        check.due("rests()", x.rests(), want);
    }

    private static void best(SpringBeads x, Model m) {
        int[] least = {0, 0, 0, 1};
        int[] most = {3, 60, 9, 9};
        int n = upTo(3) == 0 ? 100 : upTo(15);
        for (int b = 0; b < m.beads.size(); b++) {
            for (int what = 0; what < 4; what++) {
                int best = -1;
                int swing = Integer.MAX_VALUE;
                for (int v = most[what]; v >= least[what]; v--) {
                    int s = m.altered(b, what, v).swing(n);
                    if (s <= swing) {
                        best = v;
                        swing = s;
                    }
                }
                check.due("best " + what, bestOf(x, what, b, n, 0), best);
                check.due("best " + what + ", how much", bestOf(x, what, b, n, 1), swing);
            }
        }
    }

    private static int bestOf(SpringBeads x, int what, int b, int n, int answer) {
        return switch (what) {
            case 0 -> x.kind(b, n, answer);
            case 1 -> x.rest(b, n, answer);
            case 2 -> x.stiff(b, n, answer);
            default -> x.mass(b, n, answer);
        };
    }

    private static void swaps(SpringBeads x, Model m) {
        int n = upTo(3) == 0 ? 100 : upTo(15);
        int best = SpringBeads.NONE;
        int swing = m.swing(n) - 1;
        for (int j = m.knocks.size() - 1; j >= 0; j--) {
            for (int i = j - 1; i >= 0; i--) {
                Model other = m.copy();
                Collections.swap(other.knocks, i, j);
                int s = other.swing(n);
                if (s < swing || s == swing && (best == SpringBeads.NONE || 100 * i + j < best)) {
                    best = 100 * i + j;
                    swing = s;
                }
            }
        }
        check.due("swap(n, 0)", x.swap(n, 0), best);
        check.due("swap(n, 1)", x.swap(n, 1), best == SpringBeads.NONE ? SpringBeads.NONE : swing);
    }

    private static void misses(SpringBeads x, Model m) {
        int n = upTo(3) == 0 ? 100 : upTo(15);
        int best = SpringBeads.NONE;
        int swing = m.swing(n) - 1;
        for (int i = m.knocks.size() - 1; i >= 0; i--) {
            Model other = m.copy();
            other.knocks.set(i, null);
            int s = other.swing(n);
            if (s <= swing) {
                best = i;
                swing = s;
            }
        }
        check.due("miss(n, 0)", x.miss(n, 0), best);
        check.due("miss(n, 1)", x.miss(n, 1), best == SpringBeads.NONE ? SpringBeads.NONE : swing);
    }

    private static void odds(SpringBeads x, Model m) {
        int v = upTo(10);
        int n = upTo(8);
        int e = Math.max(0, Math.min(300, m.last() + upTo(20) - 10));
        BigInteger below = BigInteger.TEN.pow(n);
        BigInteger mean = paths(m, m.last(), v, n, -1);
        fraction("mean", x.mean(v, n, 0), x.mean(v, n, 1), mean, below);
        if (m.beads.isEmpty()) {
            check.due("luck without beads", x.luck(v, e, n, 0), SpringBeads.STATE);
        } else {
            fraction("luck", x.luck(v, e, n, 0), x.luck(v, e, n, 1), paths(m, 0, v, n, e), below);
        }
    }

    /** Tick by tick, each with its knock and without; at their end the swing, or whether it is at e. */
    private static BigInteger paths(Model m, int home, int v, int n, int e) {
        if (n == 0) {
            return BigInteger.valueOf(e < 0 ? Math.abs(m.last() - home) : m.last() >= e ? 1 : 0);
        }
        BigInteger hit = paths(m.copy().tick(), home, v, n - 1, e).multiply(BigInteger.valueOf(10 - v));
        BigInteger miss = paths(m.copy().tick(null), home, v, n - 1, e).multiply(BigInteger.valueOf(v));
        return hit.add(miss);
    }

    private static void fraction(String what, long above, long below, BigInteger wantAbove, BigInteger wantBelow) {
        BigInteger divisor = wantAbove.gcd(wantBelow);
        check.due(what + ", 0", above, wantAbove.divide(divisor).longValueExact());
        check.due(what + ", 1", below, wantBelow.divide(divisor).longValueExact());
    }

    /** What is seen is so by the chain with another kind or stiffness, so that not all fails. */
    private static void seen(SpringBeads x, Model m) {
        if (m.beads.isEmpty()) {
            return;
        }
        int b = upTo(m.beads.size() - 1);
        int what = upTo(1) == 0 ? 0 : 2;
        Model source = m.altered(b, what, upTo(what == 0 ? 3 : 9));
        int sights = upTo(2);
        int[][] all = new int[sights][];
        for (int i = 0; i < sights; i++) {
            int n = upTo(40);
            int of = upTo(m.beads.size() - 1);
            int at = source.copy().ticks(n).beads.get(of).at();
            all[i] = new int[] {n, of, at};
            x.see(n, of, at);
        }
        for (int other = 0; other < m.beads.size(); other++) {
            check.due("kinds(b)", x.kinds(other), bits(m, other, 0, 3, all));
            int left = bits(m, other, 2, 9, all);
            check.due("stiffs(b)", x.stiffs(other), left);
            ask(x, m, other, left);
        }
        x.forget(0);
    }

    private static int bits(Model m, int b, int what, int most, int[][] all) {
        int bits = 0;
        for (int v = 0; v <= most; v++) {
            boolean so = true;
            for (int[] sight : all) {
                so &= m.altered(b, what, v).ticks(sight[0]).beads.get(sight[1]).at() == sight[2];
            }
            bits |= so ? 1 << v : 0;
        }
        return bits;
    }

    private static void ask(SpringBeads x, Model m, int b, int left) {
        int first = SpringBeads.NONE;
        int fewest = Integer.bitCount(left) - 1;
        for (int t = 40; t >= 0; t--) {
            Map<Integer, Integer> places = new HashMap<>();
            for (int s = 0; s < 10; s++) {
                if ((left & 1 << s) != 0) {
                    places.merge(m.altered(b, 2, s).ticks(t).beads.get(b).at(), 1, Integer::sum);
                }
            }
            int worst = places.isEmpty() ? 0 : Collections.max(places.values());
            if (worst <= fewest) {
                first = t;
                fewest = worst;
            }
        }
        check.due("ask(b, 0)", x.ask(b, 0), first);
        check.due("ask(b, 1)", x.ask(b, 1), first == SpringBeads.NONE ? SpringBeads.NONE : fewest);
    }

    private static void drift(SpringBeads x, Model m) {
        int seed = random.nextInt();
        int n = 1 + upTo(199);
        if (m.beads.isEmpty()) {
            check.due("drift without beads", x.drift(seed, n, 0), SpringBeads.STATE);
            return;
        }
        Model then = m.copy();
        int greatest = 0;
        long s = seed;
        for (int i = 0; i < n; i++) {
            s = s * 1103515245L + 12345L & 0xFFFFFFFFL;
            int got = (int) (s / 65536 % 32768);
            then.tick(new Model.Knock(got % m.beads.size(), got / 8 % 19 - 9));
            greatest = Math.max(greatest, Math.abs(then.last() - m.last()));
        }
        check.due("drift(seed, n, 0)", x.drift(seed, n, 0), greatest);
        check.due("drift(seed, n, 1)", x.drift(seed, n, 1), then.last());
    }

    private static void ticks(SpringBeads x, Model m) {
        int n = upTo(100);
        Model then = m.copy().ticks(n);
        check.due("ticks(n)", x.ticks(n), then.gone);
        Model now = Model.of(x);
        check.holds("all as by ticks", now.beads.equals(then.beads) && now.knocks.equals(then.knocks)
                && now.tick == then.tick && now.drag == then.drag);
    }
}
