/** Promises 1 to 8: a new object, the text, what there is. */
final class TextBounds {
    private static final int BAD = SpringBeads.BAD, FULL = SpringBeads.FULL, NONE = SpringBeads.NONE;

    private TextBounds() {
    }

    static void all(Doc doc) {
        newObject(doc);
        feed(doc);
        end(doc);
        text(doc);
        fault(doc);
        rule(doc);
        bead(doc);
        knock(doc);
    }

    private static void newObject(Doc doc) {
        doc.of(1, "No BEADS, no KNOCKS; SHEETS have nothing.");
        State.BRIM.make();
        Subject s = new Subject();
        for (int what = 0; what <= 5; what++) {
            doc.due(s, 0, "rule", what);
            doc.due(s, what == 3 ? NONE : 0, "count", what);
        }
        for (int b = 0; b <= 3; b++) {
            doc.due(s, BAD, "bead", b, 0);
            doc.due(s, -11, "lay", b, 0, 0);
            doc.due(s, 0, "read", b, 0, 0, 1);
            doc.due(s, 1, "torn");
        }
        for (String call : new String[] {"end", "cut", "drop", "forget"}) {
            doc.refusedIn(State.FRESH, BAD, call, 1);
            doc.due(s, 0, call, 0);
        }
        doc.due(s, BAD, "knock", 0, 0);
        doc.due(s, 0, "calm");
        doc.due(s, 0, "rests");
        doc.due(s, 0, "ticks", 100);
        doc.due(s, 0, "fault");
        doc.due(new Subject(), 0, "torn");
    }

    private static void feed(Doc doc) {
        doc.of(2, "A byte (0 to 127) comes behind THE TAPE: how many it has.");
        Subject s = new Subject();
        doc.due(s, 1, "feed", 0);
        doc.due(s, 2, "feed", 127);
        doc.due(new Subject().fed("drag 2").with("feed", ';'), 1, "text");
        doc.of(2, "BAD");
        doc.beyond(0, 127, 0, "feed", 0);
        doc.of(2, "FULL: more than 160.");
        for (int i = 3; i <= 160; i++) {
            doc.due(s, i, "feed", ' ');
        }
        doc.due(s, FULL, "feed", ' ');
        doc.due(s, 160, "count", 2);
        doc.due(s.with("end", 159), 160, "feed", ' ');
        doc.due(s, FULL, "feed", ' ');
        doc.due(s.with("text"), 1, "feed", ' ');
        doc.refusedIn(State.BRIM, FULL, "feed", 0);
        doc.refusedIn(State.BRIM, FULL, "feed", 127);
    }

    private static void end(Doc doc) {
        doc.of(3, "THE TAPE keeps its first n bytes: how many it had.");
        Subject s = new Subject().fed("drag 2;drag 1;");
        doc.due(s, 14, "end", 14);
        doc.due(s, 14, "count", 2);
        doc.due(s, 14, "end", 7);
        doc.due(s, 7, "end", 7);
        doc.due(s, 1, "text");
        doc.due(s, 2, "rule", 3);
        doc.due(s, 0, "end", 0);
        Subject full = new Subject().fed(State.FULL_TEXT);
        doc.due(full, 160, "end", 160);
        doc.due(full, 160, "end", 52);
        doc.due(full, 4, "text");
        Subject gone = new Subject().fed("drag 3;");
        doc.due(gone, 7, "end", 0);
        doc.due(gone, 0, "text");
        doc.due(gone, 0, "rule", 3);
        doc.of(3, "BAD.");
        doc.below(0, 0, "end", 0);
        doc.above(160, 0, "end", 0);
        doc.refusedIn(State.FRESH, BAD, "end", 1);
        doc.refusedIn(State.BUSY, BAD, "end", 14);
    }

    private static void text(Doc doc) {
        doc.of(4, "THE TAPE (empty then) tells all: how many lines");
        doc.due(new Subject(), 0, "text");
        doc.due(State.BUSY.make().with("end", 0), 0, "text");
        Subject full = State.BRIM.make();
        doc.due(full, 16, "text");
        doc.due(full, 0, "count", 2);
        doc.due(full, 4, "rule", 0);
        doc.due(full, 12, "rule", 1);
        doc.due(full, 0, "rule", 2);
        doc.due(full, 0, "rule", 3);
        doc.due(full, 240, "rule", 5);
        doc.due(full, 0, "text");
        doc.due(full, 0, "rule", 0);
        doc.of(4, "-10 less the place of its FAULT: that which was told stays.");
        doc.due(new Subject().fed(";"), -10, "text");
        doc.due(new Subject().fed(" ;"), -11, "text");
        doc.due(new Subject().fed(" ".repeat(159) + ";"), -169, "text");
        doc.due(new Subject().fed(" ".repeat(156) + "drag"), -170, "text");
        Subject s = State.BRIM.make().with("end", 159);
        doc.due(s, -169, "text");
        doc.due(s, 0, "count", 2);
        doc.due(s, 2, "fault");
        doc.leaves("a fault at the last byte", s.fed(State.FULL_TEXT), State.BRIM, Probe.PLAIN);
    }

    private static void fault(Doc doc) {
        doc.of(5, "The FAULT of the latest text(); 0.");
        Subject s = new Subject();
        doc.due(s, 0, "fault");
        String[] faulty = {"?", "on", "on 4", "drag 1;drag", "on 1 1;".repeat(12) + "on"};
        for (int i = 0; i < faulty.length; i++) {
            doc.due(s.fed(faulty[i]).with("text"), i + 1, "fault");
            doc.due(s.with("feed", 128).with("bind", 4, 0, 0, 0).with("read", 0, 0, 0, 1), i + 1, "fault");
        }
        doc.due(s.with("text"), 0, "fault");
        doc.due(s.fed("rope").with("text").fed("rope 1 1 1;").with("text"), 0, "fault");
    }

    private static void rule(Doc doc) {
        doc.of(6, "0 BEADS");
        doc.dueIn(State.FRESH, 0, "rule", 0);
        doc.dueIn(State.BRIM, 4, "rule", 0);
        doc.of(6, "1 KNOCKS");
        doc.dueIn(State.FRESH, 0, "rule", 1);
        doc.dueIn(State.BRIM, 12, "rule", 1);
        doc.of(6, "2 TICK");
        doc.dueIn(State.FRESH, 0, "rule", 2);
        doc.dueIn(State.LATE, 9999, "rule", 2);
        doc.of(6, "3 DRAG");
        doc.dueIn(State.FRESH, 0, "rule", 3);
        doc.due(new Subject().with("drag", 3), 3, "rule", 3);
        doc.of(6, "4 which BEADS have SPEED 0 (bits)");
        doc.dueIn(State.FRESH, 0, "rule", 4);
        for (int bits = 0; bits < 16; bits++) {
            Subject s = Subject.told("rope 9 1 1;".repeat(4));
            for (int b = 0; b < 4; b++) {
                s.with("hit", b, (bits >> b & 1) == 1 ? 9 : b % 2 == 0 ? 8 : 10);
            }
            doc.due(s, bits, "rule", 4);
            doc.due(s.with("cut", 2), bits & 3, "rule", 4);
        }
        doc.of(6, "5 where the last BEAD is (0 without)");
        Subject s = new Subject().with("bind", 0, 9, 1, 1).with("bind", 0, 9, 1, 1);
        doc.due(s.put(1, 300, 0), 300, "rule", 5);
        doc.due(s.put(1, 0, 0), 0, "rule", 5);
        doc.due(s.with("cut", 1), 9, "rule", 5);
        doc.due(s.with("cut", 0), 0, "rule", 5);
        doc.of(6, "BAD.");
        doc.beyond(0, 5, 0, "rule", 0);
    }

    private static void bead(Doc doc) {
        doc.of(7, "Of a BEAD: 0 KIND, 1 REST, 2 STIFF, 3 MASS");
        for (int b = 0; b < 4; b++) {
            int[] want = {b, 60, 9, 9 - b};
            for (int what = 0; what < 4; what++) {
                doc.dueIn(State.BRIM, want[what], "bead", b, what);
            }
        }
        doc.of(7, "4 where it is, 5 100 more than SPEED");
        Subject s = new Subject().with("bind", 0, 0, 9, 1).with("bind", 0, 60, 9, 1);
        doc.due(s.put(0, 300, 40), 300, "bead", 0, 4);
        doc.due(s, 140, "bead", 0, 5);
        doc.due(s.put(1, 0, -40), 0, "bead", 1, 4);
        doc.due(s, 60, "bead", 1, 5);
        doc.of(7, "6 1000 more than STRETCH");
        doc.due(s, 1300, "bead", 0, 6);
        doc.due(s, 640, "bead", 1, 6);
        doc.of(7, "7 10000 more than PULL");
        doc.due(s, 12700, "bead", 0, 7);
        doc.due(s, 6760, "bead", 1, 7);
        doc.of(7, "BAD.");
        doc.beyond(0, 3, 0, "bead", 0, 0);
        doc.beyond(0, 7, 1, "bead", 0, 0);
        doc.refusedIn(State.FRESH, BAD, "bead", 0, 0);
        doc.refusedIn(State.BUSY, BAD, "bead", 3, 4);
        doc.refusedIn(State.LATE, BAD, "bead", 1, 4);
        doc.within(State.BRIM, 0, 3, 0, "bead", 0, 0);
    }

    private static void knock(Doc doc) {
        doc.of(8, "Of a KNOCK: 0 its BEAD, 1 9 more than by how much.");
        for (int i = 0; i < 12; i++) {
            doc.dueIn(State.BRIM, i % 4, "knock", i, 0);
            doc.dueIn(State.BRIM, 18 - i, "knock", i, 1);
        }
        Subject s = Subject.told("on 3 9;back 3 9;on 0 0;");
        doc.due(s, 18, "knock", 0, 1);
        doc.due(s, 0, "knock", 1, 1);
        doc.due(s, 9, "knock", 2, 1);
        doc.of(8, "BAD.");
        doc.beyond(0, 11, 0, "knock", 0, 0);
        doc.beyond(0, 1, 1, "knock", 0, 0);
        doc.refusedIn(State.FRESH, BAD, "knock", 0, 0);
        doc.refusedIn(State.BUSY, BAD, "knock", 5, 0);
        doc.dueIn(State.BUSY, 2, "knock", 4, 0);
    }
}
