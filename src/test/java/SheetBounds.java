/** Promises 36 to 42: images, sheets, how many. */
final class SheetBounds {
    private static final int BAD = SpringBeads.BAD, STATE = SpringBeads.STATE, NONE = SpringBeads.NONE;

    private SheetBounds() {
    }

    static void all(Doc doc) {
        keep(doc);
        back(doc);
        sheet(doc);
        lay(doc);
        layRefused(doc);
        read(doc);
        readTorn(doc);
        readRefused(doc);
        torn(doc);
        count(doc);
    }

    private static void keep(Doc doc) {
        doc.of(36, "IMAGE k (0, 1) is BEADS, KNOCKS (all of them), DRAG, TICK: whether there was one (1, 0).");
        for (int k = 0; k <= 1; k++) {
            for (State state : State.values()) {
                Subject s = state.make();
                int was = state == State.BRIM || state == State.BUSY && k == 0 || state == State.LATE && k == 1 ? 1 : 0;
                doc.due(s, was, "keep", k);
                doc.due(s, 1, "keep", k);
                // All else becomes another; what the image has comes back.
                s.with("cut", 0).with("drop", 0).with("bind", 1, 2, 3, 4).with("add", 1, 2).with("drag", 2);
                doc.due(s, state.make().ask("rule", 2), "back", k);
                for (int what = 0; what <= 5; what++) {
                    doc.due(s, state.make().ask("rule", what), "rule", what);
                }
                for (int b = 0; b < 4; b++) {
                    for (int what = 0; what <= 7; what++) {
                        doc.due(s, state.make().ask("bead", b, what), "bead", b, what);
                    }
                }
                for (int i = 0; i < 12; i++) {
                    doc.due(s, state.make().ask("knock", i, 0), "knock", i, 0);
                    doc.due(s, state.make().ask("knock", i, 1), "knock", i, 1);
                }
            }
        }
        Subject text = State.BRIM.make().with("text");
        doc.due(text, 0, "keep", 0);
        doc.due(text, 0, "keep", 1);
        doc.of(36, "BAD.");
        doc.beyond(0, 1, 0, "keep", 0);
    }

    private static void back(Doc doc) {
        doc.of(37, "All is as IMAGE k: TICK.");
        Subject s = new Subject().with("keep", 0).with("bind", 0, 9, 1, 1).with("ticks", 7).with("keep", 1);
        doc.due(s, 0, "back", 0);
        doc.due(s, 0, "rule", 0);
        doc.due(s, 7, "back", 1);
        doc.due(s, 1, "rule", 0);
        // An image stays as it is, whatever comes of what was made from it.
        s.with("alter", 0, 4, 100).with("hit", 0, 18).with("add", 0, 0).with("ticks", 3);
        doc.due(s, 7, "back", 1);
        doc.due(s, 9, "bead", 0, 4);
        doc.due(s, 100, "bead", 0, 5);
        doc.due(s, 0, "rule", 1);
        doc.dueIn(State.LATE, 9999, "back", 1);
        doc.dueIn(State.BRIM, 5, "back", 0);
        doc.dueIn(State.BRIM, 8, "back", 1);
        // Sights, sheets, the tape, images are no part of an image.
        Subject brim = State.BRIM.make().with("back", 0);
        doc.due(brim, 6, "count", 0);
        doc.due(brim, 2, "count", 1);
        doc.due(brim, 160, "count", 2);
        doc.due(brim, 40, "count", 3);
        doc.of(37, "BAD;");
        doc.beyond(0, 1, 0, "back", 0);
        doc.of(37, "STATE: there is none.");
        doc.refusedIn(State.FRESH, STATE, "back", 0);
        doc.refusedIn(State.FRESH, STATE, "back", 1);
        doc.refusedIn(State.BUSY, STATE, "back", 1);
        doc.refusedIn(State.LATE, STATE, "back", 0);
    }

    private static void sheet(Doc doc) {
        doc.of(38, "A SHEET is a new row of CELLS 0: 1.");
        for (int k = 0; k <= 3; k++) {
            for (int lane = 0; lane <= 2; lane++) {
                Subject s = State.BRIM.make().with("drop", 0);
                doc.due(s, 1, "sheet", k, lane, 4);
                doc.due(s, 2, "read", k, lane, 0, 2);
                doc.due(s, 0, "knock", 0, 0);
                doc.due(s, 0, "knock", 0, 1);
                doc.due(s, 0, "read", k, lane, 3, 1);
                // Longer again: what was laid before is not there.
                doc.due(s.with("drop", 0), 1, "sheet", k, lane, 40);
                doc.due(s, 12, "read", k, lane, 16, 12);
                for (int i = 0; i < 12; i++) {
                    doc.due(s, 0, "knock", i, 0);
                    doc.due(s, 0, "knock", i, 1);
                }
                doc.due(s, 1, "sheet", k, lane, 0);
                doc.due(s, -12, "lay", k, 0, 0);
            }
        }
        doc.of(38, "BAD: also n above 40;");
        doc.beyond(0, 3, 0, "sheet", 0, 0, 0);
        doc.beyond(0, 2, 1, "sheet", 0, 0, 0);
        doc.above(40, 2, "sheet", 0, 0, 0);
        doc.above(40, 2, "sheet", 3, 2, 0);
        doc.of(38, "-10 - 4.");
        for (int k = 0; k <= 3; k++) {
            doc.refused(-14, "sheet", k, k % 3, -1);
            doc.refused(-14, "sheet", k, 2, Integer.MIN_VALUE);
        }
    }

    private static void laid(Doc doc, int lane, int v, int bead) {
        Subject s = new Subject().with("sheet", 1, lane, 2);
        doc.due(s, 1, "lay", 1, 0, v);
        doc.due("read of " + v + " in lane " + lane, s.ask("read", 1, lane, 0, 1), bead < 0 ? -20 : 1);
        doc.due("bead by " + v + " in lane " + lane, s.ask("knock", 0, 0), bead);
    }

    private static void lay(Doc doc) {
        doc.of(39, "CELL i of a SHEET becomes v (its lowest bits): 1.");
        int[] whole = {0, 3, 4, -1, 127, 128, 255, 256, 259, 260, -128, -253, -256, 32767, 32768, 65535, 65536, 65539,
            -65533, -65536, 1 << 16 | 3, 1 << 24, 3 | 1 << 31, Integer.MAX_VALUE, Integer.MIN_VALUE};
        for (int v : whole) {
            int[] kept = {v << 24 >> 24, v << 16 >> 16, v};
            for (int lane = 0; lane <= 2; lane++) {
                laid(doc, lane, v, kept[lane] >= 0 && kept[lane] <= 3 ? kept[lane] : -1);
            }
        }
        // Of all cells that one alone.
        for (int i : new int[] {0, 1, 38, 39}) {
            Subject s = new Subject().with("sheet", 3, 2, 40).with("lay", 3, i, 3);
            for (int f = 0; f <= 38; f += 2) {
                doc.due(s.with("drop", 0), 1, "read", 3, 2, f, 1);
                doc.due(s, f == i ? 3 : 0, "knock", 0, 0);
                doc.due(s, f + 1 == i ? 3 : 0, "knock", 0, 1);
            }
        }
        doc.of(39, "BAD: k;");
        doc.beyond(0, 3, 0, "lay", 0, 0, 0);
    }

    private static void layRefused(Doc doc) {
        doc.of(39, "-10 less the FAULT: NULL, INDEX.");
        for (int k = 0; k <= 3; k++) {
            doc.refusedIn(State.FRESH, -11, "lay", k, 0, 5);
            doc.refusedIn(State.FRESH, -11, "lay", k, -1, 5);
            doc.refusedIn(State.FRESH, -11, "lay", k, Integer.MAX_VALUE, 5);
            for (int i : new int[] {-1, 40, Integer.MIN_VALUE, Integer.MAX_VALUE}) {
                doc.refusedIn(State.BRIM, -12, "lay", k, i, 5);
            }
            doc.dueIn(State.BRIM, 1, "lay", k, 0, 5);
            doc.dueIn(State.BRIM, 1, "lay", k, 39, 5);
        }
        doc.refusedIn(State.BUSY, -12, "lay", 0, 6, 5);
        doc.refusedIn(State.BUSY, -12, "lay", 1, 3, 5);
        doc.refusedIn(State.BUSY, -12, "lay", 2, 0, 5);
        doc.refusedIn(State.BUSY, -11, "lay", 3, 0, 5);
    }

    /** A sheet of a lane with so many cells: knocks of bead 1 by 0, 2, 4 ... */
    private static Subject ruled(int k, int lane, int cells) {
        Subject s = new Subject().with("sheet", k, lane, cells);
        for (int i = 0; i < cells; i++) {
            s.with("lay", k, i, i % 2 == 0 ? 1 : 9 + i / 2 % 9);
        }
        return s;
    }

    private static void read(Doc doc) {
        doc.of(40, "n (0 to 20) KNOCKS (BEAD, 9 more than by how much) are read of a SHEET taken as of a lane, two CELLS each from CELL f on, one behind another as by add(): how many came.");
        for (int k = 0; k <= 3; k++) {
            for (int lane = 0; lane <= 2; lane++) {
                Subject s = ruled(k, lane, 24);
                doc.due(s, 0, "read", k, lane, 0, 0);
                doc.due(s, 0, "rule", 1);
                doc.due(s, 12, "read", k, lane, 0, 12);
                for (int i = 0; i < 12; i++) {
                    doc.due(s, 1, "knock", i, 0);
                    doc.due(s, 9 + i % 9, "knock", i, 1);
                }
            }
        }
        // From a cell on, odd or even, behind those that are there.
        Subject s = new Subject().with("sheet", 0, 0, 40).with("add", 2, 2).with("lay", 0, 37, 3).with("lay", 0, 38, 18);
        doc.due(s.with("lay", 0, 39, 17), 1, "read", 0, 0, 37, 1);
        doc.due(s, 2, "knock", 0, 0);
        doc.due(s, 3, "knock", 1, 0);
        doc.due(s, 18, "knock", 1, 1);
        doc.due(s.with("lay", 0, 38, 0), 1, "read", 0, 0, 38, 1);
        doc.due(s, 17, "knock", 2, 1);
        // No knocks are read: from anywhere, of anything.
        for (int f : new int[] {0, 40, -1, Integer.MAX_VALUE, Integer.MIN_VALUE}) {
            for (int k = 0; k <= 3; k++) {
                for (int lane = 0; lane <= 2; lane++) {
                    doc.due(s, 0, "read", k, lane, f, 0);
                    doc.due(s, 0, "torn");
                }
            }
        }
        doc.due(s, 3, "rule", 1);
        doc.of(40, "BAD: k, lane, n;");
        doc.beyond(0, 3, 0, "read", 0, 0, 0, 0);
        doc.beyond(0, 2, 1, "read", 0, 0, 0, 0);
        doc.beyond(0, 20, 3, "read", 0, 0, 0, 0);
    }

    private static void torn(Doc doc, Subject s, int came, int fault, int... read) {
        long had = s.ask("rule", 1);
        doc.due(s, came, "read", read);
        doc.due("torn() behind " + Subject.spell("read", read), s.ask("torn"), fault);
        doc.due("knocks behind " + Subject.spell("read", read), s.ask("rule", 1), had + came);
    }

    private static void readTorn(Doc doc) {
        doc.of(40, "What the machine refuses: those that were whole ahead came (its FAULT is asked by torn()).");
        for (int lane = 0; lane <= 2; lane++) {
            // Cells for so many knocks, or half a knock more; n is as many, one more, as many as there may be.
            for (int cells = 0; cells <= 24; cells++) {
                int whole = cells / 2;
                torn(doc, ruled(2, lane, cells), whole, 0, 2, lane, 0, whole);
                torn(doc, ruled(2, lane, cells), whole, 2, 2, lane, 0, whole + 1);
                torn(doc, ruled(2, lane, cells), whole, 2, 2, lane, 0, 20);
            }
            for (int f : new int[] {-1, -2, -40, 6, 5, 7, 40, Integer.MAX_VALUE, Integer.MAX_VALUE - 1, Integer.MIN_VALUE}) {
                torn(doc, ruled(2, lane, 6), 0, 2, 2, lane, f, 1);
                torn(doc, ruled(2, lane, 6), 0, 2, 2, lane, f, 20);
            }
            torn(doc, ruled(2, lane, 6), 1, 0, 2, lane, 4, 1);
            for (int as = 0; as <= 2; as++) {
                torn(doc, new Subject(), 0, 1, 2, as, 0, 1);
                torn(doc, new Subject(), 0, 1, 2, as, -1, 20);
                if (as != lane) {
                    torn(doc, ruled(2, lane, 6), 0, 3, 2, as, 0, 1);
                    torn(doc, ruled(2, lane, 6), 0, 3, 2, as, -1, 20);
                    torn(doc, ruled(2, lane, 0), 0, 3, 2, as, 0, 1);
                }
            }
        }
        // With as many knocks as there may be: the 13th is not whole, so it is torn and not refused.
        torn(doc, ruled(0, 1, 25), 12, 2, 0, 1, 0, 13);
        torn(doc, State.BRIM.make(), 0, 2, 0, 0, 39, 1);
        torn(doc, State.BRIM.make(), 0, 3, 0, 1, 0, 20);
    }

    private static void readRefused(Doc doc) {
        doc.of(40, "-20 less i: the i-th, whole, is refused by add() (in either way): then none came; the first met.");
        int[][] wrong = {{4, 9}, {-1, 9}, {0, 19}, {0, -1}, {127, 127}, {-128, 9}};
        for (int i = 0; i <= 11; i++) {
            for (int[] w : wrong) {
                Subject s = new Subject().with("sheet", 0, 0, 40).with("add", 1, 1).with("read", 1, 0, 0, 1);
                s.with("lay", 0, 2 * i, w[0]).with("lay", 0, 2 * i + 1, w[1]);
                doc.due(s, -20 - Math.min(i, 11), "read", 0, 0, 0, 20);
                doc.due(s, 1, "rule", 1);
                doc.due(s, 1, "torn");
                doc.due(s.with("drop", 0), i, "read", 0, 0, 0, i);
            }
        }
        // The 13th, however many there were: with all 40 cells whole.
        for (int had = 0; had <= 12; had++) {
            Subject s = new Subject().with("sheet", 3, 2, 40).often(had, "add", 1, 1);
            doc.due(s, -20 - (12 - had), "read", 3, 2, 0, 20);
            doc.due(s, had, "rule", 1);
            doc.due(s, -32 + had, "read", 3, 2, 0, 13 - had);
            doc.due(s, 12 - had, "read", 3, 2, 0, 12 - had);
            doc.due(s, 12, "rule", 1);
        }
        doc.due(ruled(0, 1, 26), -32, "read", 0, 1, 0, 13);
        // The first met: refused ahead of torn, torn ahead of what would be refused.
        Subject both = ruled(0, 0, 5).with("lay", 0, 2, 4);
        doc.due(both, -21, "read", 0, 0, 0, 3);
        doc.due(both, -20, "read", 0, 0, 2, 3);
        Subject half = ruled(0, 0, 3).with("lay", 0, 2, 4);
        torn(doc, half, 1, 2, 0, 0, 0, 2);
        doc.refusedIn(State.BRIM, -20, "read", 0, 0, 38, 1);
        doc.refusedIn(State.BRIM, -20, "read", 0, 0, 0, 20);
        doc.refusedIn(State.BUSY, -20, "read", 0, 0, 1, 1);
    }

    private static void torn(Doc doc) {
        doc.of(41, "The FAULT of the latest read() that came to an end; 0.");
        Subject s = new Subject().with("sheet", 0, 0, 4).with("lay", 0, 2, 4);
        doc.due(s, 0, "torn");
        for (int fault = 1; fault <= 3; fault++) {
            s.with("read", fault == 1 ? 1 : 0, fault == 3 ? 1 : 0, fault == 2 ? 4 : 0, 1);
            doc.due(s, fault, "torn");
            // Those that are refused did not come to an end.
            doc.due(s, BAD, "read", 4, 0, 0, 1);
            doc.due(s, fault, "torn");
            doc.due(s, BAD, "read", 0, 0, 0, 21);
            doc.due(s, fault, "torn");
            doc.due(s, -21, "read", 0, 0, 0, 2);
            doc.due(s, fault, "torn");
            // Nor do other calls that find a fault count.
            doc.due(s, -12, "lay", 0, 4, 0);
            doc.due(s, -11, "lay", 1, 0, 0);
            doc.due(s, -14, "sheet", 2, 0, -1);
            doc.due(s, fault, "torn");
            doc.due(s, 1, "read", 0, 0, 0, 1);
            doc.due(s, 0, "torn");
        }
    }

    private static void count(Doc doc) {
        doc.of(42, "How many: 0 SEEN, 1 IMAGES, 2 bytes on THE TAPE");
        int[][] want = {{0, 3, 6, 2}, {0, 1, 2, 1}, {0, 13, 160, 11}};
        for (State state : State.values()) {
            for (int what = 0; what <= 2; what++) {
                doc.dueIn(state, want[what][state.ordinal()], "count", what);
            }
        }
        doc.due(new Subject().with("keep", 1), 1, "count", 1);
        doc.due(new Subject().with("keep", 1).with("keep", 1), 1, "count", 1);
        doc.of(42, "3 CELLS of SHEET 0 (NONE: nothing)");
        doc.dueIn(State.FRESH, NONE, "count", 3);
        Subject s = new Subject().with("sheet", 1, 0, 9).with("sheet", 2, 0, 9).with("sheet", 3, 0, 9);
        doc.due(s, NONE, "count", 3);
        for (int lane = 0; lane <= 2; lane++) {
            for (int n : new int[] {0, 1, 40}) {
                doc.due(s.with("sheet", 0, lane, n), n, "count", 3);
            }
        }
        doc.due(s.with("sheet", 0, 0, -1).with("sheet", 0, 0, 41), 40, "count", 3);
        doc.of(42, "4 STIFF of all BEADS, 5 MASS of all.");
        doc.dueIn(State.FRESH, 0, "count", 4);
        doc.dueIn(State.FRESH, 0, "count", 5);
        Subject full = Subject.told("slack 60 9 9;".repeat(4));
        for (int beads = 4; beads >= 0; beads--) {
            doc.due(full.with("cut", beads), 9 * beads, "count", 4);
            doc.due(full, 9 * beads, "count", 5);
        }
        doc.due(Subject.told("rope 5 0 1;"), 0, "count", 4);
        doc.due(Subject.told("rope 5 0 1;"), 1, "count", 5);
        doc.of(42, "BAD.");
        doc.beyond(0, 5, 0, "count", 0);
    }
}
