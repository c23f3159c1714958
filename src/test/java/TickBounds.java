/** The terms: a tick and what is by ticks. */
final class TickBounds {
    private TickBounds() {
    }

    static void all(Doc doc) {
        plan(doc);
        noSuchBead(doc);
        pushes(doc);
        drag(doc);
        speeds(doc);
        ends(doc);
        tick(doc);
        byTicks(doc);
    }

    /** A bead without a spring, so that its speed is told by knocks alone. */
    private static Subject free() {
        return new Subject().with("bind", 0, 50, 0, 1).put(0, 150, 0);
    }

    private static void plan(Doc doc) {
        doc.of(Doc.TERMS, "The KNOCK whose number TICK leaves by KNOCKS (none, if there are none)");
        Subject none = free().with("ticks", 1);
        doc.due(none, 100, "bead", 0, 5);
        doc.due(none, 1, "rule", 2);
        Subject one = free().with("add", 0, 10);
        for (int i = 1; i <= 3; i++) {
            doc.due(one.with("ticks", 1), 100 + i, "bead", 0, 5);
        }
        // By 0 to 9, then by 0 and 1 less: each tick shows which knock it was; the plan comes round behind 12.
        Subject twelve = free();
        int[] by = {1, 2, 3, 4, 5, 6, 7, 8, 9, -1, -2, -3};
        for (int v : by) {
            twelve.with("add", 0, 9 + v);
        }
        for (int i = 0; i < 26; i++) {
            twelve.put(0, 150, 0);
            doc.due(twelve.with("ticks", 1), 100 + by[i % 12], "bead", 0, 5);
        }
        // Tick 9999 leaves 3 by 12; by ticks the next ones are 10000, 10001.
        Subject late = free().often(99, "ticks", 100).with("ticks", 99);
        for (int v : by) {
            late.with("add", 0, 9 + v);
        }
        doc.due(late, 9999, "rule", 2);
        doc.due(late, 104, "ahead", 0, 1, 1);
        doc.due(late, 109, "ahead", 0, 2, 1);
        doc.due(late, 115, "ahead", 0, 3, 1);
    }

    private static void noSuchBead(Doc doc) {
        doc.of(Doc.TERMS, "(nothing happens, if there is no such BEAD)");
        for (int b = 0; b <= 3; b++) {
            Subject s = new Subject().with("add", b, 18);
            doc.due(s, 0, "ticks", 1);
            doc.due(s, 1, "rule", 2);
        }
        Subject one = free().with("add", 1, 18).with("ticks", 1);
        doc.due(one, 100, "bead", 0, 5);
        // Its turn comes all the same, and one that comes later is hit by it.
        doc.due(one.with("bind", 0, 10, 0, 1), 9, "ticks", 1);
        doc.due(one, 100, "bead", 0, 5);
        doc.due(one, 109, "bead", 1, 5);
        doc.due(one.with("cut", 1), 0, "ticks", 1);
    }

    /** Speed behind a tick of one bead at rest 50. */
    private static void pushed(Doc doc, int stiff, int mass, int stretch, int speed) {
        Subject s = new Subject().with("bind", 0, 50, stiff, mass).put(0, 50 + stretch, 0).with("ticks", 1);
        doc.due(s, 100 + speed, "bead", 0, 5);
    }

    private static void pushes(Doc doc) {
        doc.of(Doc.TERMS, "by the PULL of the one behind it (0 behind the last one) less its own, by ten times its MASS (towards 0), all by where BEADS are then");
        pushed(doc, 9, 1, 1, 0);
        pushed(doc, 9, 1, -1, 0);
        pushed(doc, 5, 1, 2, -1);
        pushed(doc, 5, 1, -2, 1);
        pushed(doc, 1, 1, 19, -1);
        pushed(doc, 1, 1, -19, 1);
        pushed(doc, 1, 1, 20, -2);
        pushed(doc, 8, 9, 11, 0);
        pushed(doc, 8, 9, -11, 0);
        pushed(doc, 9, 9, 10, -1);
        pushed(doc, 9, 9, -10, 1);
        // The first of two: 30 less 21 is 9, by 10 is 0; 31 less 21 is 10, by 10 is 1; behind the last one is 0.
        for (int more = 0; more <= 1; more++) {
            Subject s = new Subject().with("bind", 0, 50, 1, 1).with("bind", 0, 50, 1, 1);
            s.put(0, 71, 0).put(1, 71 + 50 + 30 + more, 0).with("ticks", 1);
            doc.due(s, 100 + more, "bead", 0, 5);
            doc.due(s, 97, "bead", 1, 5);
        }
    }

    private static void drag(Doc doc) {
        doc.of(Doc.TERMS, "SPEED is that much more, then nearer to 0 by DRAG (0 at most)");
        for (int drag = 0; drag <= 3; drag++) {
            for (int speed = -5; speed <= 5; speed++) {
                int left = Math.max(0, Math.abs(speed) - drag) * Integer.signum(speed);
                Subject s = free().put(0, 150, speed).with("drag", drag).with("ticks", 1);
                doc.due(s, 100 + left, "bead", 0, 5);
                doc.due(s, 150 + left, "bead", 0, 4);
            }
        }
    }

    private static void speeds(Doc doc) {
        doc.of(Doc.TERMS, "then -40 to 40 (what is beyond is that)");
        // 40 and 41 by 10 times 1 from stretches of 400 and 410 by stiffness: 9 times 45 is 405, 9 times 46 is 414.
        pushed(doc, 9, 1, 44, -39);
        pushed(doc, 9, 1, 45, -40);
        pushed(doc, 9, 1, 46, -40);
        pushed(doc, 9, 1, 250, -40);
        pushed(doc, 9, 1, -45, 40);
        pushed(doc, 9, 1, -46, 40);
        pushed(doc, 9, 1, -50, 40);
        // Drag comes first: 45 less 3 is still beyond; 41 less 3 is not.
        Subject s = new Subject().with("bind", 0, 50, 9, 1).with("drag", 3);
        doc.due(s.put(0, 0, 0), 140, "ahead", 0, 1, 1);
        doc.due(s.put(0, 4, 0), 138, "ahead", 0, 1, 1);
        doc.due(s.put(0, 96, 0), 62, "ahead", 0, 1, 1);
        doc.of(Doc.TERMS, "(A KNOCK: SPEED stays -40 to 40, too.)");
        for (int speed = 30; speed <= 40; speed++) {
            Subject on = free().put(0, 150, speed).with("add", 0, 18).with("drag", 3).with("ticks", 1);
            doc.due(on, 100 + Math.min(40, speed + 9) - 3, "bead", 0, 5);
            Subject back = free().put(0, 150, -speed).with("add", 0, 0).with("drag", 3).with("ticks", 1);
            doc.due(back, 100 - Math.min(40, speed + 9) + 3, "bead", 0, 5);
        }
    }

    private static void ends(Doc doc) {
        doc.of(Doc.TERMS, "Then each goes to its place and SPEED, 0 to 300; where it would go beyond, it stays at that end, SPEED is 0.");
        for (int place = 0; place <= 12; place++) {
            Subject low = new Subject().with("bind", 0, 50, 0, 1).put(0, place, -6).with("ticks", 1);
            doc.due(low, Math.max(0, place - 6), "bead", 0, 4);
            doc.due(low, place < 6 ? 100 : 94, "bead", 0, 5);
            Subject high = new Subject().with("bind", 0, 50, 0, 1).put(0, 300 - place, 6).with("ticks", 1);
            doc.due(high, Math.min(300, 306 - place), "bead", 0, 4);
            doc.due(high, place < 6 ? 100 : 106, "bead", 0, 5);
        }
        // Beads may pass one another: there is no end but those two.
        Subject two = new Subject().with("bind", 0, 5, 0, 1).with("bind", 0, 5, 0, 1).put(0, 5, 30).put(1, 10, -10);
        doc.due(two, 40, "ticks", 1);
        doc.due(two, 35, "bead", 0, 4);
        doc.due(two, 0, "bead", 1, 4);
        doc.due(two, 90, "bead", 1, 5);
    }

    private static void tick(Doc doc) {
        doc.of(Doc.TERMS, "TICK is 1 more.");
        Subject s = new Subject();
        for (int i = 0; i < 4; i++) {
            doc.due(s, i, "rule", 2);
            doc.due(s, 0, "ticks", 1);
        }
        doc.due(s.with("ticks", 0), 4, "rule", 2);
        doc.due(s.with("ticks", 100), 104, "rule", 2);
    }

    private static void byTicks(Doc doc) {
        doc.of(Doc.TERMS, "BY TICKS: as it would be from now on.");
        Subject s = State.BUSY.make();
        for (int b = 0; b < 3; b++) {
            Subject then = State.BUSY.make().with("ticks", 40);
            doc.due(s, then.ask("bead", b, 4), "ahead", b, 40, 0);
            doc.due(s, then.ask("bead", b, 5), "ahead", b, 40, 1);
        }
        doc.of(Doc.TERMS, "SWING: how far the last BEAD is from where it is now, without sign (0 without BEADS).");
        Subject two = new Subject().with("bind", 0, 50, 0, 1).with("bind", 0, 50, 0, 1);
        doc.due(two.put(0, 150, 7), 0, "runs", 1, 1);
        doc.due(two.put(1, 150, 7), 7, "runs", 1, 1);
        doc.due(two.put(1, 150, -7), 7, "runs", 1, 1);
        doc.due(two.put(1, 300, -40), 300, "runs", 8, 1);
        doc.due(two.put(1, 0, 40), 300, "runs", 8, 1);
        doc.due(new Subject().with("add", 0, 18), 0, "runs", 200, 1);
    }
}
