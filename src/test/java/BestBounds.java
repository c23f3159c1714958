/** Promises 22 to 27: what is best. */
final class BestBounds {
    private static final int BAD = SpringBeads.BAD, NONE = SpringBeads.NONE;

    private BestBounds() {
    }

    static void all(Doc doc) {
        stiff(doc);
        rest(doc);
        kind(doc);
        mass(doc);
        swap(doc);
        swapNone(doc);
        miss(doc);
        missNone(doc);
    }

    private static Subject one(int kind, int rest, int stiff, int mass) {
        return new Subject().with("bind", kind, rest, stiff, mass);
    }

    private static void best(Doc doc, Subject s, String call, int b, int n, int v, int swing) {
        doc.due(s, v, call, b, n, 0);
        doc.due(s, swing, call, b, n, 1);
    }

    /** No ticks, no swing: the least of all. At rest: likewise in as many ticks as there may be. */
    private static void ofSeveral(Doc doc, String call, int least) {
        for (int b = 0; b < 4; b++) {
            best(doc, State.BRIM.make(), call, b, 0, least, 0);
            best(doc, Subject.told("plain 1 1 9;".repeat(4)), call, b, 0, least, 0);
        }
    }

    private static void bad(Doc doc, String call) {
        doc.beyond(0, 3, 0, call, 0, 0, 0);
        doc.beyond(0, 100, 1, call, 0, 0, 0);
        doc.beyond(0, 1, 2, call, 0, 0, 0);
        doc.refusedIn(State.FRESH, BAD, call, 0, 0, 0);
        doc.refusedIn(State.BUSY, BAD, call, 3, 0, 0);
        doc.refusedIn(State.LATE, BAD, call, 1, 0, 0);
        doc.within(State.BRIM, 0, 3, 0, call, 0, 100, 0);
        doc.within(State.LATE, 0, 100, 1, call, 0, 0, 1);
    }

    private static void stiff(Doc doc) {
        doc.of(22, "STIFF of a BEAD by which the greatest SWING in n TICKS (0 to 100) is least, of several the least (what 0), how much (1).");
        ofSeveral(doc, "stiff", 0);
        best(doc, one(0, 30, 5, 1), "stiff", 0, 100, 0, 0);
        // 9 at first; then 9 less 9 times STIFF by 10: 8 by 10 leaves 2, 9 leaves 1.
        best(doc, one(0, 30, 5, 1).put(0, 30, 9), "stiff", 0, 2, 9, 10);
        // Stretched by 2: 5 to 9 pull by 1, 0 to 4 do not.
        best(doc, one(0, 30, 9, 1).put(0, 32, 0), "stiff", 0, 1, 0, 0);
        // From 0 pushed by 60 times STIFF by 10: with speed -6 ahead STIFF 1 alone stays.
        best(doc, one(0, 60, 5, 1).put(0, 0, 0).with("add", 0, 3), "stiff", 0, 1, 0, 0);
        best(doc, one(0, 60, 5, 1).put(0, 20, 0).with("add", 0, 1), "stiff", 0, 1, 2, 0);
        doc.of(22, "BAD.");
        bad(doc, "stiff");
    }

    private static void rest(Doc doc) {
        doc.of(23, "REST of a BEAD by which the greatest SWING in n TICKS (0 to 100) is least, of several the least (what 0), how much (1).");
        ofSeveral(doc, "rest", 0);
        best(doc, one(0, 9, 0, 1), "rest", 0, 100, 0, 0);
        // At 71: by 60 a pull of 99, 9 by 10; by 59 one of 108.
        best(doc, one(0, 0, 9, 1).put(0, 71, 0), "rest", 0, 1, 60, 9);
        // At 30: 10 times by 1 is 1, so 21 to 39 stay for ever.
        best(doc, one(0, 0, 1, 1).put(0, 30, 0), "rest", 0, 100, 21, 0);
        best(doc, one(0, 60, 9, 1).put(0, 1, 0), "rest", 0, 100, 0, 0);
        doc.of(23, "BAD.");
        bad(doc, "rest");
    }

    private static void kind(Doc doc) {
        doc.of(24, "KIND of a BEAD by which the greatest SWING in n TICKS (0 to 100) is least, of several the first (what 0), how much (1).");
        ofSeveral(doc, "kind", 0);
        best(doc, one(3, 30, 9, 1), "kind", 0, 100, 0, 0);
        best(doc, one(0, 30, 9, 1).put(0, 10, 0), "kind", 0, 100, 1, 0);
        best(doc, one(0, 30, 9, 1).put(0, 50, 0), "kind", 0, 100, 2, 0);
        // From 34 by -9 to 25, where a knock of 9 stops it: plain ones and ropes pull it further at first, a block
        // pushes it back and far beyond; a slack one, 4 and 5 off, does nothing.
        Subject slack = one(0, 30, 9, 1).put(0, 34, -9).with("add", 3, 9).with("add", 0, 18).often(6, "add", 3, 9);
        best(doc, slack, "kind", 0, 8, 3, 9);
        doc.of(24, "BAD.");
        bad(doc, "kind");
    }

    private static void mass(Doc doc) {
        doc.of(25, "MASS of a BEAD by which the greatest SWING in n TICKS (0 to 100) is least, of several the least (what 0), how much (1).");
        ofSeveral(doc, "mass", 1);
        best(doc, one(0, 30, 9, 5), "mass", 0, 100, 1, 0);
        // 81 by 90 is 0, by 80 is 1.
        best(doc, one(0, 30, 9, 1).put(0, 39, 0), "mass", 0, 1, 9, 0);
        best(doc, one(0, 30, 9, 1).put(0, 39, 0), "mass", 0, 100, 9, 0);
        // Speed 9, then slowed by 81 by 10 times MASS: by 8, 4, 2 ..
        best(doc, one(0, 30, 9, 5).put(0, 30, 9), "mass", 0, 2, 1, 10);
        doc.of(25, "BAD.");
        bad(doc, "mass");
    }

    private static void swap(Doc doc) {
        doc.of(26, "Two KNOCKS that are to change places so that the greatest SWING in n TICKS (0 to 100) is least, less than as it is: 100 times the lesser and the greater, of several the least (what 0), how much (1).");
        // In one tick: the first knock alone counts; each of the others is as good.
        Subject first = Subject.told("plain 60 0 1;on 0 5;on 1 1;on 2 1;");
        doc.due(first, 1, "swap", 1, 0);
        doc.due(first, 0, "swap", 1, 1);
        // 0, 5, 10, ..: later is better, as late as there is: the last two of twelve.
        Subject last = Subject.told("plain 60 0 1;" + "on 1 1;".repeat(10) + "on 0 9;back 1 1;");
        doc.due(last, 1011, "swap", 11, 0);
        doc.due(last, 0, "swap", 11, 1);
        // Both numbers of a knock change: the bead and by how much.
        Subject both = Subject.told("plain 60 0 1;plain 60 0 1;on 1 6;back 0 9;");
        doc.due(both, 1, "swap", 1, 0);
        doc.due(both, 0, "swap", 1, 1);
        doc.due(both, 1, "swap", 2, 0);
        doc.due(both, 6, "swap", 2, 1);
        // 7, then the two of 3 and 2 in its place: the second is better.
        Subject least = Subject.told("plain 60 0 1;on 0 7;on 0 3;on 0 2;");
        doc.due(least, 2, "swap", 1, 0);
        doc.due(least, 2, "swap", 1, 1);
        // Speeds 1, 0, 0 go on by 1 a round, 34 in 100 ticks; 0, -1, 0 go back by 33, which is less from the 100th on.
        Subject rounds = Subject.told("plain 60 0 1;on 0 1;back 0 1;on 1 0;");
        doc.due(rounds, NONE, "swap", 99, 0);
        doc.due(rounds, 2, "swap", 100, 0);
        doc.due(rounds, 33, "swap", 100, 1);
        doc.of(26, "BAD;");
        doc.beyond(0, 100, 0, "swap", 0, 0);
        doc.beyond(0, 1, 1, "swap", 0, 0);
    }

    private static void swapNone(Doc doc) {
        doc.of(26, "NONE: by none.");
        for (int what = 0; what <= 1; what++) {
            doc.refused(NONE, "swap", 0, what);
            doc.refusedIn(State.FRESH, NONE, "swap", 100, what);
            doc.due(Subject.told("plain 60 0 1;on 0 5;"), NONE, "swap", 100, what);
            doc.due(Subject.told("plain 60 0 1;on 0 5;on 0 5;on 0 5;"), NONE, "swap", 100, what);
            doc.due(Subject.told("on 0 5;on 1 5;"), NONE, "swap", 100, what);
            // As good as it is, is not less: by 5 or by -5.
            doc.due(Subject.told("plain 60 0 1;on 0 5;back 0 5;"), NONE, "swap", 1, what);
        }
    }

    private static void miss(Doc doc) {
        doc.of(27, "The KNOCK that had better not be (nothing in its place) so that the greatest SWING in n TICKS (0 to 100) is least, less than as it is, of several the first (what 0), how much (1).");
        Subject one = Subject.told("plain 60 0 1;on 0 5;");
        doc.due(one, 0, "miss", 1, 0);
        doc.due(one, 0, "miss", 1, 1);
        doc.due(one, 0, "miss", 100, 0);
        doc.due(one, 0, "miss", 100, 1);
        Subject last = Subject.told("plain 60 0 1;" + "on 1 1;".repeat(11) + "on 0 9;");
        doc.due(last, 11, "miss", 12, 0);
        doc.due(last, 0, "miss", 12, 1);
        doc.due(last, NONE, "miss", 11, 0);
        // 0, 5, 5, 10 off; without the second or the last it is 5 at most.
        Subject equal = Subject.told("plain 60 0 1;on 1 5;on 0 5;back 0 5;on 0 5;");
        doc.due(equal, 1, "miss", 4, 0);
        doc.due(equal, 5, "miss", 4, 1);
        // Nothing in its place: the next one does not come sooner. 9, 10 off: without the first 0, 8 back.
        Subject place = Subject.told("plain 60 0 1;on 0 9;back 0 8;");
        doc.due(place, 10, "runs", 2, 1);
        doc.due(place, 0, "miss", 2, 0);
        doc.due(place, 8, "miss", 2, 1);
        doc.due(place, 0, "miss", 1, 1);
        doc.of(27, "BAD;");
        doc.beyond(0, 100, 0, "miss", 0, 0);
        doc.beyond(0, 1, 1, "miss", 0, 0);
    }

    private static void missNone(Doc doc) {
        doc.of(27, "NONE: none.");
        for (int what = 0; what <= 1; what++) {
            doc.refused(NONE, "miss", 0, what);
            doc.refusedIn(State.FRESH, NONE, "miss", 100, what);
            doc.due(new Subject().with("bind", 0, 60, 0, 1).put(0, 60, 5), NONE, "miss", 100, what);
            doc.due(Subject.told("on 0 5;on 3 5;"), NONE, "miss", 100, what);
            doc.due(Subject.told("plain 60 0 1;on 1 5;on 0 0;"), NONE, "miss", 100, what);
            // Without it the swing would be more, 5 in place of 3, or the same, 4 in place of 4.
            doc.due(new Subject().with("bind", 0, 60, 0, 1).put(0, 60, 5).with("add", 0, 1), NONE, "miss", 1, what);
            doc.due(new Subject().with("bind", 0, 60, 0, 1).put(0, 60, 4).with("add", 0, 1), NONE, "miss", 1, what);
        }
    }
}
