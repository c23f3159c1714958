/** Promises 28, 29 and 35: knocks that miss, knocks by a seed. */
public final class OddsTest {
    private static final Check check = new Check();

    public static void main(String[] args) {
        luck();
        mean();
        drift();
        check.end();
    }

    private static void fraction(String what, long above, long below, long wantAbove, long wantBelow) {
        check.due(what + ", 0", above, wantAbove);
        check.due(what + ", 1", below, wantBelow);
    }

    private static void lucky(SpringBeads x, int v, int e, int n, long above, long below) {
        fraction("luck(" + v + ", " + e + ", " + n + ")", x.luck(v, e, n, 0), x.luck(v, e, n, 1), above, below);
    }

    private static void meant(SpringBeads x, int v, int n, long above, long below) {
        fraction("mean(" + v + ", " + n + ")", x.mean(v, n, 0), x.mean(v, n, 1), above, below);
    }

    /** Places behind two ticks: 50 + 2 * 5 (if the first hits) + 2 (if the second hits). */
    private static SpringBeads two() {
        return Make.told("plain 50 0 1;on 0 5;on 0 2;");
    }

    private static void luck() {
        SpringBeads x = two();
        lucky(x, 3, 50, 2, 1, 1);
        lucky(x, 3, 51, 2, 91, 100);
        lucky(x, 3, 52, 2, 91, 100);
        lucky(x, 3, 53, 2, 7, 10);
        lucky(x, 3, 60, 2, 7, 10);
        lucky(x, 3, 62, 2, 49, 100);
        lucky(x, 3, 63, 2, 0, 1);
        lucky(x, 0, 62, 2, 1, 1);
        lucky(x, 10, 51, 2, 0, 1);
        lucky(x, 10, 50, 2, 1, 1);
        lucky(x, 5, 51, 1, 1, 2);
        lucky(x, 5, 50, 0, 1, 1);
        lucky(x, 5, 51, 0, 0, 1);
        lucky(x, 5, 0, 8, 1, 1);
        lucky(x, 5, 300, 8, 0, 1);
        SpringBeads one = Make.told("plain 0 0 1;on 0 1;");
        // All eight hit: 1 + 2 + .. + 8.
        lucky(one, 1, 36, 8, 43046721, 100000000);
        lucky(one, 9, 36, 8, 1, 100000000);
        check.due("luck(11, ..)", x.luck(11, 0, 0, 0), SpringBeads.BAD);
        check.due("luck(-1, ..)", x.luck(-1, 0, 0, 0), SpringBeads.BAD);
        check.due("luck(0, 301, ..)", x.luck(0, 301, 0, 0), SpringBeads.BAD);
        check.due("luck(0, -1, ..)", x.luck(0, -1, 0, 0), SpringBeads.BAD);
        check.due("luck(0, 0, 9, 0)", x.luck(0, 0, 9, 0), SpringBeads.BAD);
        check.due("luck(0, 0, -1, 0)", x.luck(0, 0, -1, 0), SpringBeads.BAD);
        check.due("luck(0, 0, 0, 2)", x.luck(0, 0, 0, 2), SpringBeads.BAD);
        check.due("luck(0, 0, 0, -1)", x.luck(0, 0, 0, -1), SpringBeads.BAD);
        check.due("luck without beads", new SpringBeads().luck(0, 0, 0, 0), SpringBeads.STATE);
        check.due("luck without beads, bad", new SpringBeads().luck(11, 0, 0, 0), SpringBeads.BAD);
    }

    private static void mean() {
        SpringBeads x = two();
        // 10 by 7 out of ten and 2 by 7 out of ten.
        meant(x, 3, 2, 42, 5);
        meant(x, 0, 2, 12, 1);
        meant(x, 10, 2, 0, 1);
        meant(x, 3, 0, 0, 1);
        meant(x, 3, 1, 7, 2);
        // The swing is behind all of them, without sign: 9 back, then 9 on, is behind two 18 - 9 = 9.
        SpringBeads y = Make.told("plain 50 0 1;back 0 9;on 0 9;");
        meant(y, 0, 2, 9, 1);
        meant(y, 5, 2, 9, 1);
        SpringBeads one = Make.told("plain 0 0 1;on 0 1;");
        meant(one, 1, 8, 162, 5);
        meant(new SpringBeads(), 5, 8, 0, 1);
        check.due("mean(11, 0, 0)", x.mean(11, 0, 0), SpringBeads.BAD);
        check.due("mean(-1, 0, 0)", x.mean(-1, 0, 0), SpringBeads.BAD);
        check.due("mean(0, 9, 0)", x.mean(0, 9, 0), SpringBeads.BAD);
        check.due("mean(0, -1, 0)", x.mean(0, -1, 0), SpringBeads.BAD);
        check.due("mean(0, 0, 2)", x.mean(0, 0, 2), SpringBeads.BAD);
        check.due("mean(0, 0, -1)", x.mean(0, 0, -1), SpringBeads.BAD);
    }

    private static void drift() {
        SpringBeads x = Make.one(0, 30, 5, 2);
        x.add(0, 0);
        // 1103527590: 16838, by 8 2104, modulo 19 14, less 9 5.
        check.due("drift(1, 1, 0)", x.drift(1, 1, 0), 5);
        check.due("drift(1, 1, 1)", x.drift(1, 1, 1), 35);
        // 12345: got is 0: back by 9.
        check.due("drift(0, 1, 0)", x.drift(0, 1, 0), 9);
        check.due("drift(0, 1, 1)", x.drift(0, 1, 1), 21);
        check.due("drift(1, 0, 0)", x.drift(1, 0, 0), SpringBeads.BAD);
        check.due("drift(1, 201, 0)", x.drift(1, 201, 0), SpringBeads.BAD);
        check.due("drift(1, 1, 2)", x.drift(1, 1, 2), SpringBeads.BAD);
        check.due("drift(1, 1, -1)", x.drift(1, 1, -1), SpringBeads.BAD);
        check.due("drift without beads", new SpringBeads().drift(1, 1, 0), SpringBeads.STATE);
        check.due("drift without beads, bad", new SpringBeads().drift(1, 0, 0), SpringBeads.BAD);
        check.due("by itself: tick", x.rule(2), 0);
        check.due("by itself: place", x.rule(5), 30);
        // Of two beads 16838 is of the first one: the last one stays.
        SpringBeads two = Make.told("plain 50 0 1;plain 50 0 1;");
        check.due("of the first of two", two.drift(1, 1, 0), 0);
        check.due("of the third of three", Make.told("plain 9 0 1;plain 9 0 1;plain 9 0 1;").drift(1, 1, 0), 5);
        check.holds("a seed of any sign", x.drift(Integer.MIN_VALUE, 200, 0) >= 0 && x.drift(-1, 200, 1) >= 0);
    }
}
