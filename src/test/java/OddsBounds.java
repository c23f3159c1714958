import java.math.BigInteger;

/** Promises 28, 29 and 35: knocks that miss, knocks by a seed. */
final class OddsBounds {
    private static final int STATE = SpringBeads.STATE;

    private OddsBounds() {
    }

    static void all(Doc doc) {
        luck(doc);
        luckRefused(doc);
        mean(doc);
        drift(doc);
        seeds(doc);
        driftRefused(doc);
    }

    private static void lucky(Doc doc, Subject s, int v, int e, int n, long above, long below) {
        doc.due(s, above, "luck", v, e, n, 0);
        doc.due(s, below, "luck", v, e, n, 1);
    }

    private static void meant(Doc doc, Subject s, int v, int n, long above, long below) {
        doc.due(s, above, "mean", v, n, 0);
        doc.due(s, below, "mean", v, n, 1);
    }

    /** A bead without a spring, knocked by one in each tick: 1 + 2 + .. + n further, if none misses. */
    private static Subject driven() {
        return new Subject().with("bind", 0, 0, 0, 1).put(0, 100, 0).with("add", 0, 10);
    }

    private static void luck(Doc doc) {
        doc.of(28, "The KNOCK of each of n TICKS (0 to 8) misses by v out of ten (0 to 10), by itself");
        lucky(doc, driven(), 5, 100, 0, 1, 1);
        lucky(doc, driven(), 5, 101, 0, 0, 1);
        lucky(doc, driven(), 0, 136, 8, 1, 1);
        lucky(doc, driven(), 10, 101, 8, 0, 1);
        lucky(doc, driven(), 1, 136, 8, 43046721, 100000000);
        lucky(doc, driven(), 9, 136, 8, 1, 100000000);
        lucky(doc, driven(), 5, 136, 8, 1, 256);
        lucky(doc, driven(), 9, 101, 8, 56953279, 100000000);
        lucky(doc, driven(), 3, 101, 1, 7, 10);
        // Of two: 3 further by both, 2 by the first, 1 by the second.
        lucky(doc, driven(), 3, 101, 2, 91, 100);
        lucky(doc, driven(), 3, 102, 2, 7, 10);
        lucky(doc, driven(), 3, 103, 2, 49, 100);
        // A knock that misses has had its turn: behind two ticks the second knock can't have come twice.
        Subject two = new Subject().with("bind", 0, 0, 0, 1).put(0, 100, 0).with("add", 0, 9).with("add", 0, 14);
        lucky(doc, two, 5, 106, 2, 0, 1);
        lucky(doc, two, 5, 105, 2, 1, 2);
        doc.of(28, "that the last BEAD is AT place e (0 to 300) or further behind them: 0, 1.");
        lucky(doc, driven(), 0, 0, 8, 1, 1);
        lucky(doc, driven(), 0, 137, 8, 0, 1);
        lucky(doc, driven(), 0, 300, 8, 0, 1);
        lucky(doc, driven().put(0, 300, 0), 0, 300, 8, 1, 1);
        lucky(doc, driven().put(0, 0, 0).with("drop", 0), 0, 0, 8, 1, 1);
        lucky(doc, driven().put(0, 0, 0).with("drop", 0), 0, 1, 8, 0, 1);
        lucky(doc, State.LATE.make(), 3, 0, 8, 1, 1);
        // The last of two, not the first.
        Subject last = new Subject().with("bind", 0, 0, 0, 1).with("bind", 0, 0, 0, 1).put(0, 200, 0).put(1, 50, 0);
        lucky(doc, last, 3, 51, 8, 0, 1);
        lucky(doc, last, 3, 50, 8, 1, 1);
    }

    private static void luckRefused(Doc doc) {
        doc.of(28, "BAD; STATE: there are no BEADS.");
        doc.beyond(0, 10, 0, "luck", 0, 0, 0, 0);
        doc.beyond(0, 300, 1, "luck", 0, 0, 0, 0);
        doc.beyond(0, 8, 2, "luck", 0, 0, 0, 0);
        doc.beyond(0, 1, 3, "luck", 0, 0, 0, 0);
        doc.refusedIn(State.FRESH, STATE, "luck", 0, 0, 0, 0);
        doc.refusedIn(State.FRESH, STATE, "luck", 10, 300, 8, 1);
        doc.due(State.BRIM.make().with("cut", 0), STATE, "luck", 0, 0, 8, 0);
        doc.holds("one is enough", State.BRIM.make().with("cut", 1).ask("luck", 0, 0, 8, 0) == 1);
    }

    private static void mean(Doc doc) {
        doc.of(29, "Likewise, the mean of SWING behind them: 0, 1.");
        meant(doc, driven(), 5, 0, 0, 1);
        meant(doc, driven(), 0, 8, 36, 1);
        meant(doc, driven(), 10, 8, 0, 1);
        meant(doc, driven(), 1, 8, 162, 5);
        meant(doc, driven(), 9, 8, 18, 5);
        meant(doc, driven(), 3, 1, 7, 10);
        meant(doc, driven(), 5, 2, 3, 2);
        // Without sign, and behind all of them alone: it goes 5 back, then on by 6 or not.
        Subject back = new Subject().with("bind", 0, 0, 0, 1).put(0, 100, -5).with("add", 3, 9).with("add", 0, 15);
        meant(doc, back, 0, 2, 4, 1);
        meant(doc, back, 10, 2, 10, 1);
        meant(doc, back, 5, 2, 7, 1);
        // As far as can be: 300 in each case.
        Subject far = new Subject().with("bind", 0, 0, 0, 1).put(0, 300, -40).with("add", 0, 9);
        meant(doc, far, 5, 8, 300, 1);
        // There need not be BEADS.
        meant(doc, new Subject(), 5, 8, 0, 1);
        meant(doc, State.BRIM.make().with("cut", 0), 5, 8, 0, 1);
        doc.of(29, "BAD.");
        doc.beyond(0, 10, 0, "mean", 0, 0, 0);
        doc.beyond(0, 8, 1, "mean", 0, 0, 0);
        doc.beyond(0, 1, 2, "mean", 0, 0, 0);
    }

    private static void drift(Doc doc) {
        doc.of(35, "By itself, n TICKS (1 to 200) by a seed");
        for (State state : new State[] {State.BUSY, State.BRIM, State.LATE}) {
            doc.within(state, 1, 200, 1, "drift", -7, 1, 0);
            for (Probe probe : Probe.values()) {
                doc.leaves("drift(5, 200, 0)", state.make().with("drift", 5, 200, 0), state, probe);
            }
        }
        doc.of(35, "the greatest SWING behind any of them (what 0), where the last BEAD is in the end (1)");
        for (int n : new int[] {1, 2, 3, 199, 200}) {
            for (int beads = 1; beads <= 4; beads++) {
                held(doc, -12345, n, State.BRIM.make().with("cut", beads));
            }
        }
        // Seed 0 knocks by 9 back at once: from 0 it stays, from 300 it goes to 291.
        Subject s = new Subject().with("bind", 0, 0, 0, 1);
        doc.due(s, 0, "drift", 0, 1, 0);
        doc.due(s, 0, "drift", 0, 1, 1);
        doc.due(s.put(0, 300, 0), 9, "drift", 0, 1, 0);
        doc.due(s, 291, "drift", 0, 1, 1);
    }

    /** The seed by numbers of any length, the ticks by knocks by hand: a plan of no knocks is as good as none. */
    private static void held(Doc doc, int seed, int n, Subject s) {
        BigInteger number = BigInteger.valueOf(seed);
        int beads = (int) s.ask("rule", 0);
        Model model = new Model();
        for (int b = 0; b < beads; b++) {
            model.beads.add(new Model.Bead((int) s.ask("bead", b, 0), (int) s.ask("bead", b, 1), (int) s.ask("bead", b, 2),
                    (int) s.ask("bead", b, 3), (int) s.ask("bead", b, 4), (int) s.ask("bead", b, 5) - 100));
        }
        model.drag = (int) s.ask("rule", 3);
        int home = model.last();
        int greatest = 0;
        for (int i = 0; i < n; i++) {
            number = number.multiply(BigInteger.valueOf(1103515245)).add(BigInteger.valueOf(12345));
            int got = number.shiftRight(16).mod(BigInteger.ONE.shiftLeft(15)).intValue();
            model.tick(new Model.Knock(got % beads, got / 8 % 19 - 9));
            greatest = Math.max(greatest, Math.abs(model.last() - home));
        }
        doc.due(s, greatest, "drift", seed, n, 0);
        doc.due(s, model.last(), "drift", seed, n, 1);
    }

    private static void seeds(Doc doc) {
        doc.of(35, "ahead of each the seed becomes seed times 1103515245 and 12345; bits 16 to 30 of it are got");
        int[] seeds = {0, 1, 2, -1, -2, 65535, 65536, Integer.MAX_VALUE, Integer.MIN_VALUE, 1 << 30, 1 << 16, -1 << 16};
        for (int seed : seeds) {
            for (int n = 1; n <= 4; n++) {
                held(doc, seed, n, new Subject().with("bind", 0, 0, 0, 1).put(0, 150, 0));
            }
        }
        doc.of(35, "the KNOCK of that TICK (in place of KNOCKS) is of BEAD got modulo BEADS, by got by 8 (down) modulo 19, less 9");
        // One tick of a bead without a spring: seeds that knock by each of -9 to 9.
        boolean[] met = new boolean[19];
        for (int seed = 0; seed < 150; seed++) {
            Subject s = new Subject().with("bind", 0, 0, 0, 1).put(0, 150, 0).with("add", 0, 18);
            held(doc, seed, 1, s);
            met[(int) s.ask("drift", seed, 1, 1) - 141] = true;
        }
        for (int by = -9; by <= 9; by++) {
            doc.holds("a knock by " + by, met[by + 9]);
        }
        for (int beads = 2; beads <= 4; beads++) {
            for (int seed = -20; seed < 20; seed++) {
                held(doc, seed, 3, Subject.told("plain 60 0 1;".repeat(beads)));
            }
        }
    }

    private static void driftRefused(Doc doc) {
        doc.of(35, "BAD; STATE: there are no BEADS.");
        doc.beyond(1, 200, 1, "drift", 0, 1, 0);
        doc.beyond(0, 1, 2, "drift", 0, 1, 0);
        doc.refusedIn(State.FRESH, STATE, "drift", 0, 1, 0);
        doc.refusedIn(State.FRESH, STATE, "drift", Integer.MIN_VALUE, 200, 1);
        doc.due(State.BRIM.make().with("cut", 0), STATE, "drift", 0, 200, 1);
    }
}
