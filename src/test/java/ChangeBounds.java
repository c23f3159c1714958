/** Promises 9 to 16: what is changed. */
final class ChangeBounds {
    private static final int BAD = SpringBeads.BAD, FULL = SpringBeads.FULL;

    private ChangeBounds() {
    }

    static void all(Doc doc) {
        alter(doc);
        drag(doc);
        bind(doc);
        cut(doc);
        hit(doc);
        add(doc);
        drop(doc);
        calm(doc);
    }

    private static void alter(Doc doc) {
        doc.of(9, "KIND, REST, STIFF, MASS, where it is (what 0 to 4) of a BEAD becomes v: what it was.");
        int[] least = {0, 0, 0, 1, 0};
        int[] most = {3, 60, 9, 9, 300};
        for (int b = 0; b < 4; b++) {
            for (int what = 0; what <= 4; what++) {
                Subject s = State.BRIM.make();
                long was = s.ask("bead", b, what);
                long speed = s.ask("bead", b, 5);
                doc.due(s, was, "alter", b, what, least[what]);
                doc.due(s, least[what], "alter", b, what, most[what]);
                doc.due(s, most[what], "bead", b, what);
                doc.due(s, speed, "bead", b, 5);
                doc.due(s, most[what], "alter", b, what, (int) was);
                doc.leaves("altered there and back", s, State.BRIM, Probe.PLAIN);
            }
        }
        doc.of(9, "BAD.");
        for (int what = 0; what <= 4; what++) {
            doc.beyond(least[what], most[what], 2, "alter", 0, what, 1);
        }
        doc.beyond(0, 4, 1, "alter", 0, 0, 1);
        doc.beyond(0, 3, 0, "alter", 0, 0, 1);
        doc.refusedIn(State.FRESH, BAD, "alter", 0, 0, 1);
        doc.refusedIn(State.BUSY, BAD, "alter", 3, 4, 1);
        doc.refusedIn(State.LATE, BAD, "alter", 1, 4, 1);
    }

    private static void drag(Doc doc) {
        doc.of(10, "DRAG becomes v: what it was.");
        Subject s = new Subject();
        int was = 0;
        for (int v : new int[] {3, 0, 1, 2, 2, 3}) {
            doc.due(s, was, "drag", v);
            doc.due(s, v, "rule", 3);
            was = v;
        }
        doc.of(10, "BAD.");
        doc.beyond(0, 3, 0, "drag", 0);
    }

    private static void bind(Doc doc) {
        doc.of(11, "A BEAD more, behind all others, REST further than the last one (300 at most), SPEED 0: how many there are.");
        int[][] places = {{0, 60}, {239, 299}, {240, 300}, {241, 300}, {300, 300}};
        for (int[] p : places) {
            Subject s = new Subject().with("bind", 0, 0, 0, 1).put(0, p[0], 40);
            doc.due(s, 2, "bind", 3, 60, 9, 9);
            doc.due(s, p[1], "bead", 1, 4);
            doc.due(s, 100, "bead", 1, 5);
            doc.due(s, 3, "bind", 3, 0, 9, 9);
            doc.due(s, p[1], "bead", 2, 4);
        }
        Subject first = new Subject();
        doc.due(first, 1, "bind", 0, 0, 0, 1);
        doc.due(first, 0, "bead", 0, 4);
        // One that comes in the place of one that was there has nothing of it.
        Subject again = State.BRIM.make().with("hit", 3, 18).with("hit", 3, 18).with("cut", 3);
        again.with("alter", 2, 4, 7);
        doc.due(again, 4, "bind", 0, 1, 2, 3);
        int[] want = {0, 1, 2, 3, 8, 100, 1000, 10000};
        for (int what = 0; what < want.length; what++) {
            doc.due(again, want[what], "bead", 3, what);
        }
        doc.of(11, "BAD; FULL.");
        doc.beyond(0, 3, 0, "bind", 0, 0, 0, 1);
        doc.beyond(0, 60, 1, "bind", 0, 0, 0, 1);
        doc.beyond(0, 9, 2, "bind", 0, 0, 0, 1);
        doc.beyond(1, 9, 3, "bind", 0, 0, 0, 1);
        doc.refusedIn(State.BRIM, FULL, "bind", 0, 0, 0, 1);
        doc.refusedIn(State.BRIM, FULL, "bind", 3, 60, 9, 9);
        doc.dueIn(State.BUSY, 4, "bind", 3, 60, 9, 9);
        Subject told = Subject.told("rope 1 1 1;".repeat(4));
        doc.due(told, FULL, "bind", 0, 0, 0, 1);
    }

    private static void cut(Doc doc) {
        doc.of(12, "BEADS are the first n alone: how many there were.");
        for (int n = 0; n <= 4; n++) {
            Subject s = State.BRIM.make();
            doc.due(s, 4, "cut", n);
            doc.due(s, n, "rule", 0);
            for (int b = 0; b < 4; b++) {
                doc.due(s, b < n ? b : BAD, "bead", b, 0);
            }
            doc.due(s, n, "cut", n);
            doc.due(s, 12, "rule", 1);
            doc.due(s, 6, "count", 0);
        }
        doc.dueIn(State.FRESH, 0, "cut", 0);
        doc.of(12, "BAD.");
        doc.beyond(0, 4, 0, "cut", 0);
        doc.refusedIn(State.FRESH, BAD, "cut", 1);
        doc.refusedIn(State.BUSY, BAD, "cut", 4);
        doc.refusedIn(State.LATE, BAD, "cut", 2);
    }

    private static void hit(Doc doc) {
        doc.of(13, "A BEAD is KNOCKED by hand by v less 9 (v 0 to 18): 100 more than its SPEED then.");
        for (int v = 0; v <= 18; v++) {
            doc.due(new Subject().with("bind", 0, 30, 0, 1), 91 + v, "hit", 0, v);
        }
        for (int speed = 29; speed <= 40; speed++) {
            Subject s = new Subject().with("bind", 0, 30, 0, 1);
            doc.due(s.put(0, 30, speed), 100 + Math.min(40, speed + 9), "hit", 0, 18);
            doc.due(s.put(0, 30, -speed), 100 + Math.max(-40, -speed - 9), "hit", 0, 0);
            doc.due(s, 30, "bead", 0, 4);
            doc.due(s, 0, "rule", 2);
        }
        for (int b = 0; b < 4; b++) {
            Subject s = State.BRIM.make().with("calm");
            doc.due(s, 101, "hit", b, 10);
            doc.due(s, 15 - (1 << b), "rule", 4);
        }
        doc.of(13, "BAD.");
        doc.beyond(0, 18, 1, "hit", 0, 9);
        doc.beyond(0, 3, 0, "hit", 0, 9);
        doc.refusedIn(State.FRESH, BAD, "hit", 0, 9);
        doc.refusedIn(State.BUSY, BAD, "hit", 3, 9);
        doc.refusedIn(State.LATE, BAD, "hit", 1, 18);
    }

    private static void add(Doc doc) {
        doc.of(14, "A KNOCK more, of BEAD b (0 to 3) by v less 9 (v 0 to 18), behind all others: how many there are.");
        Subject s = new Subject();
        int[][] rows = {{0, 0}, {3, 18}, {0, 18}, {3, 0}, {1, 9}, {2, 8}, {2, 10}, {3, 1}, {0, 17}, {1, 0}, {2, 18}, {3, 9}};
        for (int i = 0; i < rows.length; i++) {
            doc.due(s, i + 1, "add", rows[i]);
            for (int j = 0; j <= i; j++) {
                doc.due(s, rows[j][0], "knock", j, 0);
                doc.due(s, rows[j][1], "knock", j, 1);
            }
        }
        doc.of(14, "BAD; FULL.");
        doc.due(s, FULL, "add", 0, 9);
        doc.beyond(0, 3, 0, "add", 0, 9);
        doc.beyond(0, 18, 1, "add", 0, 9);
        doc.refusedIn(State.BRIM, FULL, "add", 0, 0);
        doc.refusedIn(State.BRIM, FULL, "add", 3, 18);
        doc.due(State.BRIM.make().with("drop", 11), 12, "add", 3, 18);
        doc.due(Subject.told("on 1 1;".repeat(12)), FULL, "add", 0, 9);
    }

    private static void drop(Doc doc) {
        doc.of(15, "KNOCKS are the first n alone: how many there were.");
        for (int n = 0; n <= 12; n++) {
            Subject s = State.BRIM.make();
            doc.due(s, 12, "drop", n);
            doc.due(s, n, "rule", 1);
            for (int i = 0; i < 12; i++) {
                doc.due(s, i < n ? 18 - i : BAD, "knock", i, 1);
            }
            doc.due(s, n, "drop", n);
        }
        doc.dueIn(State.FRESH, 0, "drop", 0);
        doc.of(15, "BAD.");
        doc.beyond(0, 12, 0, "drop", 0);
        doc.refusedIn(State.FRESH, BAD, "drop", 1);
        doc.refusedIn(State.BUSY, BAD, "drop", 6);
        doc.refusedIn(State.LATE, BAD, "drop", 2);
    }

    private static void calm(Doc doc) {
        doc.of(16, "Each BEAD has SPEED 0: how many had not.");
        doc.dueIn(State.FRESH, 0, "calm");
        for (int moving = 0; moving <= 4; moving++) {
            Subject s = Subject.told("rope 9 1 1;".repeat(4));
            for (int b = 0; b < moving; b++) {
                s.put(3 - b, 50, b % 2 == 0 ? 40 : -1);
            }
            doc.due(s, moving, "calm");
            doc.due(s, 15, "rule", 4);
            doc.due(s, 0, "calm");
        }
        Subject cut = Subject.told("rope 9 1 1;".repeat(2)).with("hit", 1, 18).with("cut", 1);
        doc.due(cut, 0, "calm");
    }
}
