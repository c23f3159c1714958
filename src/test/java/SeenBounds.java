/** Promises 30 to 34: where it was. */
final class SeenBounds {
    private static final int BAD = SpringBeads.BAD, FULL = SpringBeads.FULL, NONE = SpringBeads.NONE;

    private SeenBounds() {
    }

    static void all(Doc doc) {
        see(doc);
        forget(doc);
        kinds(doc);
        gone(doc);
        stiffs(doc);
        ask(doc);
        askNone(doc);
    }

    private static Subject one(int kind, int rest, int stiff, int mass) {
        return new Subject().with("bind", kind, rest, stiff, mass);
    }

    private static void see(Doc doc) {
        doc.of(30, "SEEN: behind n TICKS (0 to 40) a BEAD is AT place v (0 to 300): how many are.");
        Subject s = one(0, 0, 0, 1).put(0, 260, 1);
        doc.due(s, 1, "see", 0, 0, 260);
        doc.due(s, 2, "see", 40, 0, 300);
        doc.due(s, 1, "stiffs", 0);
        doc.due(s, 3, "see", 39, 0, 300);
        doc.due(s, 0, "stiffs", 0);
        // A spring pulls it to 0 sooner, where it stays; without one it comes there behind 40.
        Subject low = one(0, 0, 0, 1).put(0, 40, -1);
        doc.due(low, 1, "see", 40, 0, 0);
        doc.due(low, 1023, "stiffs", 0);
        doc.due(low, 2, "see", 39, 0, 1);
        doc.due(low, 1, "stiffs", 0);
        doc.due(low, 3, "see", 40, 0, 1);
        doc.due(low, 0, "stiffs", 0);
        for (int b = 0; b < 4; b++) {
            doc.due(State.BRIM.make().with("forget", 5), 6, "see", 40, b, 300);
        }
        doc.of(30, "BAD; FULL.");
        doc.beyond(0, 40, 0, "see", 0, 0, 0);
        doc.beyond(0, 3, 1, "see", 0, 0, 0);
        doc.beyond(0, 300, 2, "see", 0, 0, 0);
        doc.refusedIn(State.FRESH, BAD, "see", 0, 0, 0);
        doc.refusedIn(State.BUSY, BAD, "see", 0, 3, 0);
        doc.refusedIn(State.LATE, BAD, "see", 0, 1, 0);
        doc.refusedIn(State.BRIM, FULL, "see", 0, 0, 0);
        doc.refusedIn(State.BRIM, FULL, "see", 40, 3, 300);
        Subject six = one(0, 9, 1, 1);
        for (int i = 1; i <= 6; i++) {
            doc.due(six, i, "see", 0, 0, 9);
        }
        doc.due(six, FULL, "see", 0, 0, 9);
        doc.due(six, 6, "count", 0);
    }

    private static void forget(Doc doc) {
        doc.of(31, "SEEN are the first n alone: how many there were.");
        // The i-th sight is the first one that is not so: what is left is so, if it is forgotten.
        for (int wrong = 0; wrong < 6; wrong++) {
            for (int n = 0; n <= 6; n++) {
                Subject s = one(0, 9, 1, 1);
                for (int i = 0; i < 6; i++) {
                    s.with("see", 0, 0, i == wrong ? 8 : 9);
                }
                doc.due(s, 6, "forget", n);
                doc.due(s, n, "count", 0);
                doc.due(s, n > wrong ? 0 : 15, "kinds", 0);
                doc.due(s, n, "forget", n);
            }
        }
        doc.dueIn(State.FRESH, 0, "forget", 0);
        doc.of(31, "BAD.");
        doc.beyond(0, 6, 0, "forget", 0);
        doc.refusedIn(State.FRESH, BAD, "forget", 1);
        doc.refusedIn(State.BUSY, BAD, "forget", 4);
        doc.dueIn(State.BUSY, 3, "forget", 3);
    }

    private static void kinds(Doc doc) {
        doc.of(32, "KINDS of a BEAD (bits) by which, all else as it is, all is as SEEN.");
        doc.due(one(0, 9, 1, 1), 15, "kinds", 0);
        // Stretched by 6 and by 5, pressed by 5 and by 6, with stiffness 5: pulls of 30, 25 go 3 and 2 places.
        int[] stretch = {6, 6, 5, 5, -5, -5, -6, -6};
        int[] goes = {-3, 0, -2, 0, 2, 0, 3, 0};
        int[] bits = {11, 4, 3, 12, 5, 10, 13, 2};
        for (int i = 0; i < stretch.length; i++) {
            for (int kind = 0; kind <= 3; kind++) {
                Subject s = one(kind, 50, 5, 1).put(0, 50 + stretch[i], 0);
                s.with("see", 1, 0, 50 + stretch[i] + goes[i]);
                doc.due(s, bits[i], "kinds", 0);
                doc.due(s, kind, "bead", 0, 0);
                doc.due(s.with("see", 0, 0, 50), 0, "kinds", 0);
            }
        }
        doc.of(32, "BAD.");
        doc.beyond(0, 3, 0, "kinds", 0);
        doc.refusedIn(State.FRESH, BAD, "kinds", 0);
        doc.refusedIn(State.BUSY, BAD, "kinds", 3);
        doc.refusedIn(State.LATE, BAD, "kinds", 1);
        doc.within(State.BRIM, 0, 3, 0, "kinds", 0);
    }

    private static void gone(Doc doc) {
        doc.of(32, "(What is SEEN of a BEAD that is there no more is never so.)");
        for (int b = 0; b <= 1; b++) {
            doc.dueIn(State.LATE, b == 0 ? 0 : BAD, "kinds", b);
            doc.dueIn(State.LATE, b == 0 ? 0 : BAD, "stiffs", b);
            doc.dueIn(State.LATE, b == 0 ? NONE : BAD, "ask", b, 0);
        }
        Subject s = one(0, 9, 1, 1).with("bind", 0, 9, 1, 1).with("see", 40, 1, 18).with("keep", 0);
        doc.due(s, 15, "kinds", 0);
        doc.due(s.with("cut", 1), 0, "kinds", 0);
        doc.due(s, 0, "stiffs", 0);
        doc.due(s, 1, "count", 0);
        doc.due(s.with("back", 0), 15, "kinds", 0);
        doc.due(s.with("cut", 1).with("bind", 0, 9, 1, 1), 15, "kinds", 0);
        doc.due(s.with("cut", 1).with("forget", 0), 15, "kinds", 0);
    }

    private static void stiffs(Doc doc) {
        doc.of(33, "STIFFS of a BEAD (bits 0 to 9) by which, all else as it is, all is as SEEN.");
        doc.due(one(0, 9, 1, 1), 1023, "stiffs", 0);
        // Stretched by 10 each stiffness goes by as many places.
        for (int stiff = 0; stiff <= 9; stiff++) {
            Subject s = one(0, 50, 9 - stiff, 1).put(0, 60, 0).with("see", 1, 0, 60 - stiff);
            doc.due(s, 1 << stiff, "stiffs", 0);
            doc.due(s, 9 - stiff, "bead", 0, 2);
            doc.due(s.with("see", 0, 0, 59), 0, "stiffs", 0);
        }
        doc.due(one(0, 50, 1, 1).put(0, 60, 0).with("see", 1, 0, 50), 0, "stiffs", 0);
        // Both are stretched by 10: the first goes back by its stiffness and on by that of the one behind it.
        Subject two = one(0, 50, 3, 1).with("bind", 0, 50, 0, 1).put(0, 60, 0).put(1, 120, 0).with("see", 1, 0, 57);
        doc.due(two, 8, "stiffs", 0);
        doc.due(two, 1, "stiffs", 1);
        doc.of(33, "BAD.");
        doc.beyond(0, 3, 0, "stiffs", 0);
        doc.refusedIn(State.FRESH, BAD, "stiffs", 0);
        doc.refusedIn(State.BUSY, BAD, "stiffs", 3);
        doc.refusedIn(State.LATE, BAD, "stiffs", 1);
        doc.within(State.BRIM, 0, 3, 0, "stiffs", 0);
    }

    /**
     * A rope at rest 60 that goes on by one place in each tick: it pulls by 2 times STIFF at 62, so that 5 to 9 slow
     * it from there, behind one tick more.
     */
    private static Subject rope(int place) {
        return one(1, 60, 5, 1).put(0, place, 1);
    }

    private static void ask(Doc doc) {
        doc.of(34, "Behind how many TICKS (0 to 40) to look where a BEAD is, so that of stiffs() of it fewest are left at the worst, fewer than now, the first (what 0), how many these are (1).");
        doc.due(rope(62), 1, "ask", 0, 0);
        doc.due(rope(23), 40, "ask", 0, 0);
        doc.due(rope(23), 5, "ask", 0, 1);
        // Stretched by 10 each is at a place of its own behind a tick; one at least is left.
        Subject s = one(0, 50, 9, 1).put(0, 60, 0);
        doc.due(s, 1, "ask", 0, 0);
        doc.due(s, 1, "ask", 0, 1);
        // Fewer than now, the first of several: at 52 behind one tick five and five; two sorts ever after.
        Subject five = one(0, 50, 9, 1).put(0, 52, 0);
        doc.due(five, 1, "ask", 0, 0);
        doc.due(five, 5, "ask", 0, 1);
        // Those alone that stiffs() has: what was seen leaves 5 to 9, and 10 times these is at one place each.
        Subject left = one(0, 50, 9, 1).put(0, 52, 0).with("see", 1, 0, 51);
        doc.due(left, 992, "stiffs", 0);
        doc.due(left, NONE, "ask", 0, 0);
        // Another BEAD than that asked about may have been seen.
        Subject two = rope(23).with("bind", 0, 60, 5, 1).with("see", 0, 1, 83);
        doc.due(two.with("bind", 0, 1, 0, 1).with("see", 0, 2, 84), 1023, "stiffs", 0);
        doc.of(34, "BAD;");
        doc.beyond(0, 3, 0, "ask", 0, 0);
        doc.beyond(0, 1, 1, "ask", 0, 0);
        doc.refusedIn(State.FRESH, BAD, "ask", 0, 0);
        doc.refusedIn(State.BUSY, BAD, "ask", 3, 0);
        doc.refusedIn(State.LATE, BAD, "ask", 1, 0);
    }

    private static void askNone(Doc doc) {
        doc.of(34, "NONE: behind none.");
        for (int what = 0; what <= 1; what++) {
            doc.due(rope(22), NONE, "ask", 0, what);
            doc.due(one(0, 50, 9, 1), NONE, "ask", 0, what);
            // One is left, whichever it is, or none: none can be fewer.
            for (int stiff = 0; stiff <= 9; stiff++) {
                Subject s = one(0, 50, 9, 1).put(0, 60, 0).with("see", 1, 0, 60 - stiff);
                doc.due(s, 1 << stiff, "stiffs", 0);
                doc.due(s, NONE, "ask", 0, what);
                doc.due(s.with("see", 0, 0, 0), NONE, "ask", 0, what);
            }
        }
    }
}
