/** Promises 17 to 21: ticks. */
final class RunBounds {
    private static final int BAD = SpringBeads.BAD, FULL = SpringBeads.FULL, NONE = SpringBeads.NONE;

    private RunBounds() {
    }

    static void all(Doc doc) {
        ticks(doc);
        runs(doc);
        comingToAnEnd(doc);
        ahead(doc);
        when(doc);
        rests(doc);
    }

    /** A bead without a spring that goes on with its speed. */
    private static Subject going(int place, int speed) {
        return new Subject().with("bind", 0, 0, 0, 1).put(0, place, speed);
    }

    private static void ticks(Doc doc) {
        doc.of(17, "n TICKS (0 to 100): by how many places all BEADS go in them, without signs, summed.");
        Subject s = going(10, 1);
        doc.due(s, 0, "ticks", 0);
        doc.due(s, 0, "rule", 2);
        doc.due(s, 1, "ticks", 1);
        doc.due(s, 100, "ticks", 100);
        doc.due(s, 101, "rule", 2);
        doc.due(s, 111, "rule", 5);
        Subject four = Subject.told("rope 60 0 1;".repeat(4)).put(0, 60, 1).put(1, 120, -2).put(2, 180, 0).put(3, 240, -3);
        doc.due(four, 18, "ticks", 3);
        // There and back: the places gone count, not how far it is then.
        Subject back = going(100, 5).with("add", 0, 9).with("add", 0, 0).with("add", 0, 8);
        doc.due(back, 5 + 4 + 5, "ticks", 3);
        doc.due(back, 96, "rule", 5);
        doc.due(going(2, -5), 2, "ticks", 100);
        doc.due(going(299, 5), 1, "ticks", 100);
        doc.dueIn(State.FRESH, 0, "ticks", 100);
        doc.of(17, "BAD");
        doc.beyond(0, 100, 0, "ticks", 0);
        doc.of(17, "FULL: TICK would be 10000 or more.");
        doc.dueIn(State.LATE, 0, "ticks", 0);
        for (int n : new int[] {1, 2, 99, 100}) {
            doc.refusedIn(State.LATE, FULL, "ticks", n);
        }
        Subject late = new Subject().often(99, "ticks", 100);
        doc.due(late, FULL, "ticks", 100);
        doc.due(late, 9900, "rule", 2);
        doc.due(late, 0, "ticks", 98);
        doc.due(late, FULL, "ticks", 2);
        doc.due(late, 0, "ticks", 1);
        doc.due(late, 9999, "rule", 2);
        doc.due(late, FULL, "ticks", 1);
        // A text begins anew.
        doc.due(late.with("text"), 0, "ticks", 100);
    }

    private static void runs(Doc doc) {
        doc.of(18, "BY TICKS, n of them (0 to 200): by how many places all BEADS go, as by ticks() (what 0)");
        Subject s = going(50, 1);
        doc.due(s, 0, "runs", 0, 0);
        doc.due(s, 1, "runs", 1, 0);
        doc.due(s, 200, "runs", 200, 0);
        doc.due(State.BUSY.make(), State.BUSY.make().ask("ticks", 100), "runs", 100, 0);
        doc.due(State.BRIM.make(), State.BRIM.make().ask("ticks", 100), "runs", 100, 0);
        doc.dueIn(State.FRESH, 0, "runs", 200, 0);
        doc.of(18, "the greatest SWING behind any of them (1; 0)");
        doc.due(s, 0, "runs", 0, 1);
        doc.due(s, 1, "runs", 1, 1);
        doc.due(s, 200, "runs", 200, 1);
        // Speeds 5, 5, -4, -5: off by 5, 10, 6, 1: the greatest is neither the first nor the last.
        Subject back = going(100, 5).with("add", 0, 9).with("add", 0, 9).with("add", 0, 0).with("add", 0, 8);
        doc.due(back, 10, "runs", 4, 1);
        doc.due(back, 5, "runs", 1, 1);
        doc.dueIn(State.FRESH, 0, "runs", 200, 1);
        // As great as can be, by way of one less: from 300 by 13 a tick to 1, then to the end.
        doc.due(going(300, -13), 299, "runs", 23, 1);
        doc.due(going(300, -13), 300, "runs", 24, 1);
        // It comes to 0 in the 8th tick; ticks go on behind the greatest swing that there is.
        Subject turned = going(300, -40).often(8, "add", 3, 9).often(4, "add", 0, 18);
        int[] want = {327, 300, 27, 1};
        for (int what = 0; what <= 3; what++) {
            doc.due(turned, want[what], "runs", 10, what);
        }
        doc.of(18, "where the last BEAD is then (2; 0 without)");
        doc.due(s, 50, "runs", 0, 2);
        doc.due(s, 250, "runs", 200, 2);
        doc.due(back, 101, "runs", 4, 2);
        doc.due(going(300, 0), 300, "runs", 200, 2);
        doc.dueIn(State.FRESH, 0, "runs", 200, 2);
        doc.due(new Subject().with("add", 0, 18), 0, "runs", 200, 2);
        doc.of(18, "BAD.");
        doc.beyond(0, 200, 0, "runs", 0, 0);
        doc.beyond(0, 3, 1, "runs", 0, 0);
        // By ticks there is no bound on TICK.
        for (int what = 0; what <= 3; what++) {
            doc.within(State.LATE, 0, 200, 0, "runs", 0, what);
        }
    }

    private static void comingToAnEnd(Doc doc) {
        doc.of(18, "how many times any BEAD comes to an end of its places (stays at one there, SPEED 0 in place of going beyond; 3)");
        doc.due(going(5, -5), 0, "runs", 0, 3);
        doc.due(going(5, -5), 0, "runs", 1, 3);
        doc.due(going(4, -5), 1, "runs", 1, 3);
        doc.due(going(5, -5), 1, "runs", 2, 3);
        doc.due(going(5, -5), 1, "runs", 200, 3);
        doc.due(going(295, 5), 0, "runs", 1, 3);
        doc.due(going(296, 5), 1, "runs", 1, 3);
        doc.due(going(0, -1), 1, "runs", 1, 3);
        doc.due(going(300, 1), 1, "runs", 1, 3);
        doc.due(going(0, 0).with("add", 0, 0), 200, "runs", 200, 3);
        Subject both = new Subject().with("bind", 0, 0, 0, 1).with("bind", 0, 0, 0, 1).put(0, 1, -2).put(1, 299, 2);
        doc.due(both, 2, "runs", 1, 3);
        doc.due(both, 2, "runs", 200, 3);
        doc.dueIn(State.FRESH, 0, "runs", 200, 3);
    }

    private static void ahead(Doc doc) {
        doc.of(19, "BY TICKS, n of them (0 to 200): where a BEAD is then (what 0), 100 more than its SPEED (1).");
        Subject s = going(50, 1);
        doc.due(s, 50, "ahead", 0, 0, 0);
        doc.due(s, 51, "ahead", 0, 1, 0);
        doc.due(s, 250, "ahead", 0, 200, 0);
        doc.due(s, 101, "ahead", 0, 0, 1);
        doc.due(s, 101, "ahead", 0, 200, 1);
        doc.due(going(100, 40), 300, "ahead", 0, 5, 0);
        doc.due(going(100, 40), 140, "ahead", 0, 5, 1);
        doc.due(going(100, 40), 100, "ahead", 0, 6, 1);
        doc.due(going(200, -40), 60, "ahead", 0, 5, 1);
        doc.due(going(200, -40), 0, "ahead", 0, 6, 0);
        doc.of(19, "BAD.");
        doc.beyond(0, 3, 0, "ahead", 0, 0, 0);
        doc.beyond(0, 200, 1, "ahead", 0, 0, 0);
        doc.beyond(0, 1, 2, "ahead", 0, 0, 0);
        doc.refusedIn(State.FRESH, BAD, "ahead", 0, 0, 0);
        doc.refusedIn(State.BUSY, BAD, "ahead", 3, 0, 0);
        doc.refusedIn(State.LATE, BAD, "ahead", 1, 0, 0);
        doc.within(State.BRIM, 0, 3, 0, "ahead", 0, 200, 1);
        doc.within(State.LATE, 0, 200, 1, "ahead", 0, 0, 0);
    }

    private static void when(Doc doc) {
        doc.of(20, "BY TICKS: behind how many (0 to 200) a BEAD is AT place v (0 to 300), or beyond it (seen from where it is now), first.");
        doc.due(going(50, 1), 0, "when", 0, 50);
        doc.due(going(50, 1), 1, "when", 0, 51);
        doc.due(going(50, 1), 200, "when", 0, 250);
        doc.due(going(250, -1), 200, "when", 0, 50);
        // Ends are places like others; one that stays there is at them.
        doc.due(going(0, 0), 0, "when", 0, 0);
        doc.due(going(300, 0), 0, "when", 0, 300);
        doc.due(going(10, -4), 3, "when", 0, 0);
        doc.due(going(12, -4), 3, "when", 0, 0);
        doc.due(going(290, 4), 3, "when", 0, 300);
        doc.due(going(200, -1), 200, "when", 0, 0);
        doc.due(going(100, 1), 200, "when", 0, 300);
        // Beyond, either way: by steps of 7 from 100, and from 0 and 300 there is one way alone.
        doc.due(going(100, 7), 2, "when", 0, 108);
        doc.due(going(100, 7), 2, "when", 0, 114);
        doc.due(going(100, 7), 3, "when", 0, 115);
        doc.due(going(100, -7), 2, "when", 0, 92);
        doc.due(going(100, -7), 2, "when", 0, 86);
        doc.due(going(100, -7), 3, "when", 0, 85);
        doc.due(going(0, 7), 1, "when", 0, 1);
        doc.due(going(300, -7), 1, "when", 0, 299);
        // First: it is there behind 2 again.
        doc.due(going(100, 5).with("add", 0, 9).with("add", 0, 0).with("add", 0, 8), 1, "when", 0, 103);
        doc.of(20, "NONE: behind none.");
        doc.due(going(50, 1), NONE, "when", 0, 251);
        doc.due(going(250, -1), NONE, "when", 0, 49);
        doc.due(going(201, -1), NONE, "when", 0, 0);
        doc.due(going(99, 1), NONE, "when", 0, 300);
        doc.due(going(50, 0), NONE, "when", 0, 51);
        doc.due(going(50, 1), NONE, "when", 0, 49);
        doc.of(20, "BAD;");
        doc.beyond(0, 3, 0, "when", 0, 0);
        doc.beyond(0, 300, 1, "when", 0, 0);
        doc.refusedIn(State.FRESH, BAD, "when", 0, 0);
        doc.refusedIn(State.BUSY, BAD, "when", 3, 0);
        doc.refusedIn(State.LATE, BAD, "when", 1, 0);
    }

    private static void rests(Doc doc) {
        doc.of(21, "BY TICKS without KNOCKS: behind how many (0 to 200) a TICK moves no BEAD, nor changes a SPEED, first (that TICK is the next one).");
        doc.dueIn(State.FRESH, 0, "rests");
        doc.due(going(50, 0), 0, "rests");
        doc.due(going(50, 0).with("add", 0, 18), 0, "rests");
        // The tick that stops it changes its speed: it rests behind that one.
        doc.due(going(0, -1), 1, "rests");
        doc.due(going(300, 40), 1, "rests");
        doc.due(going(1, -1), 2, "rests");
        doc.due(going(50, 3).with("drag", 1), 3, "rests");
        doc.due(going(101, 1), 200, "rests");
        doc.due(going(199, -1), 200, "rests");
        // One of four that moves is enough.
        for (int b = 0; b < 4; b++) {
            Subject four = Subject.told("rope 60 0 1;".repeat(4)).with("drag", 1);
            doc.due(four, 0, "rests");
            doc.due(four.with("hit", b, 11), 2, "rests");
        }
        // A push that does not come to one place moves nothing: 9 by 10; 10 by 10 does.
        doc.due(new Subject().with("bind", 0, 50, 9, 1).put(0, 51, 0), 0, "rests");
        doc.holds("10 by 10 moves", new Subject().with("bind", 0, 50, 5, 1).put(0, 52, 0).ask("rests") != 0);
        // A push that an end takes whole: 80 by 10 moves the last one beyond 300, 80 by 90 the first one not at all.
        Subject held = new Subject().with("bind", 0, 60, 0, 9).with("bind", 0, 60, 8, 1).put(0, 250, 0).put(1, 300, 0);
        doc.due(held, 9920, "bead", 1, 7);
        doc.due(held, 0, "rests");
        doc.due(held, 1, "runs", 1, 3);
        doc.of(21, "NONE: behind none.");
        doc.due(going(100, 1), NONE, "rests");
        doc.due(going(200, -1), NONE, "rests");
        doc.due(new Subject().with("bind", 0, 30, 5, 2).with("hit", 0, 18), NONE, "rests");
    }
}
