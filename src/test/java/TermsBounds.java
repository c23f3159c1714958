import java.math.BigInteger;
import java.util.Arrays;

/** The terms: answers, fractions, what beads and knocks are, what sights and sheets are. */
final class TermsBounds {
    private static final int BAD = SpringBeads.BAD, STATE = SpringBeads.STATE;
    private static final int FULL = SpringBeads.FULL, NONE = SpringBeads.NONE;

    private TermsBounds() {
    }

    static void all(Doc doc) {
        calls(doc);
        answers(doc);
        firstThatFits(doc);
        refusals(doc);
        fractions(doc);
        beads(doc);
        traits(doc);
        places(doc);
        knocks(doc);
        pulls(doc);
        sights(doc);
        sheets(doc);
        faultsOfSheets(doc);
    }

    private static void calls(Doc doc) {
        doc.of(Doc.TERMS, "An object is used for at most 512 calls after it has been made");
        // The last of each is the 512th.
        doc.due(new Subject().often(510, "drag", 3).with("bind", 0, 7, 1, 1), 7, "rule", 5);
        doc.due(new Subject().often(511, "feed", ' '), 0, "text");
    }

    private static void answers(Doc doc) {
        doc.of(Doc.TERMS, "Answers: BAD -1 (a number is not as told, there is no such BEAD, KNOCK, IMAGE, SHEET)");
        doc.due("BAD", BAD, -1);
        doc.refusedIn(State.BUSY, -1, "drag", 4);
        doc.refusedIn(State.BUSY, -1, "bead", 3, 0);
        doc.refusedIn(State.BUSY, -1, "knock", 5, 0);
        doc.refusedIn(State.BUSY, -1, "back", 2);
        doc.refusedIn(State.BUSY, -1, "lay", 4, 0, 0);
        doc.of(Doc.TERMS, "STATE -2 (as told)");
        doc.due("STATE", STATE, -2);
        doc.refusedIn(State.BUSY, -2, "back", 1);
        doc.of(Doc.TERMS, "FULL -3");
        doc.due("FULL", FULL, -3);
        doc.refusedIn(State.BRIM, -3, "feed", ' ');
        doc.of(Doc.TERMS, "NONE -4 (there is none)");
        doc.due("NONE", NONE, -4);
        doc.refusedIn(State.FRESH, -4, "count", 3);
    }

    /** Where two answers would fit. */
    private static void firstThatFits(Doc doc) {
        doc.of(Doc.TERMS, "the first that fits");
        doc.refusedIn(State.BRIM, BAD, "feed", 128);
        doc.refusedIn(State.BRIM, BAD, "bind", 4, 0, 0, 1);
        doc.refusedIn(State.BRIM, BAD, "add", 4, 9);
        doc.refusedIn(State.BRIM, BAD, "see", 41, 0, 0);
        doc.refusedIn(State.LATE, BAD, "ticks", 101);
        doc.refusedIn(State.LATE, FULL, "ticks", 100);
        doc.refusedIn(State.FRESH, BAD, "luck", 11, 0, 0, 0);
        doc.refusedIn(State.FRESH, STATE, "luck", 10, 0, 0, 0);
        doc.refusedIn(State.FRESH, BAD, "drift", 1, 0, 0);
        doc.refusedIn(State.FRESH, STATE, "drift", 1, 1, 0);
        doc.refusedIn(State.FRESH, BAD, "back", 2);
        doc.refusedIn(State.FRESH, STATE, "back", 1);
        doc.refusedIn(State.FRESH, BAD, "swap", 101, 0);
        doc.refusedIn(State.FRESH, NONE, "swap", 100, 0);
        doc.refusedIn(State.FRESH, BAD, "miss", 101, 0);
        doc.refusedIn(State.FRESH, NONE, "miss", 100, 0);
        doc.refusedIn(State.FRESH, BAD, "when", 0, 0);
        doc.refusedIn(State.FRESH, BAD, "ask", 0, 0);
        doc.refusedIn(State.BUSY, BAD, "sheet", 4, 0, -1);
        doc.refusedIn(State.BUSY, BAD, "sheet", 0, 3, -1);
        doc.refusedIn(State.BUSY, -14, "sheet", 0, 2, -1);
        doc.refusedIn(State.BUSY, BAD, "lay", 4, -1, 0);
        doc.refusedIn(State.BUSY, BAD, "read", 4, 0, -1, 1);
        doc.refusedIn(State.BUSY, BAD, "read", 0, 3, -1, 1);
        doc.refusedIn(State.BUSY, BAD, "read", 0, 1, -1, 21);
    }

    private static void refusals(Doc doc) {
        doc.of(Doc.TERMS, "what is refused changes nothing (but THE TAPE, as told)");
        String[] faulty = {"?", "on", "on 4", "drag 1;drag", "on 1 1;".repeat(13), "rope 1 1 1;drag 2;on 1 1;rope"};
        for (State state : State.values()) {
            for (String text : faulty) {
                for (Probe probe : Probe.values()) {
                    if (probe == Probe.FAULT) {
                        continue;
                    }
                    Subject s = state.make().with("end", 0).fed(text);
                    doc.holds("refused '" + text + "'", s.ask("text") <= -10);
                    String was = probe.of(state.make().with("end", 0));
                    doc.holds(state + " but for the tape '" + text + "' leaves all, asked by " + probe,
                            was.equals(probe.of(s)));
                }
            }
        }
        // Calls that only ask leave all, too.
        for (State state : State.values()) {
            for (Probe asking : new Probe[] {Probe.PLAIN, Probe.FAULT, Probe.FORESIGHT, Probe.CHOICE}) {
                for (Probe probe : Probe.values()) {
                    Subject s = state.make();
                    asking.of(s);
                    doc.leaves("asking by " + asking, s, state, probe);
                }
            }
        }
    }

    private static void fraction(Doc doc, Subject s, long above, long below, String call, int... numbers) {
        int[] first = Arrays.copyOf(numbers, numbers.length + 1);
        int[] second = first.clone();
        second[numbers.length] = 1;
        doc.due(s, above, call, first);
        doc.due(s, below, call, second);
    }

    private static void fractions(Doc doc) {
        doc.of(Doc.TERMS, "Fractions are in lowest terms, the denominator above 0 (0 is 0 by 1)");
        Subject s = Subject.told("plain 50 0 1;on 0 4;");
        fraction(doc, s, 1, 2, "luck", 5, 51, 1);
        fraction(doc, s, 2, 5, "luck", 6, 51, 1);
        fraction(doc, s, 0, 1, "luck", 5, 55, 1);
        fraction(doc, s, 1, 1, "luck", 5, 50, 8);
        fraction(doc, s, 2, 1, "mean", 5, 1);
        fraction(doc, s, 8, 5, "mean", 6, 1);
        fraction(doc, s, 0, 1, "mean", 10, 8);
        fraction(doc, s, 0, 1, "mean", 5, 0);
        fraction(doc, new Subject(), 0, 1, "mean", 5, 8);
        for (int n = 0; n <= 8; n++) {
            for (int v = 0; v <= 10; v++) {
                long above = s.ask("luck", v, 55, n, 0);
                long below = s.ask("luck", v, 55, n, 1);
                doc.holds("luck(" + v + ", 55, " + n + ") is lowest", below > 0
                        && BigInteger.valueOf(above).gcd(BigInteger.valueOf(below)).longValue() == 1);
            }
        }
    }

    private static void beads(Doc doc) {
        doc.of(Doc.TERMS, "BEADS 0 on (4 at most), by order");
        Subject s = new Subject();
        for (int b = 0; b < 4; b++) {
            doc.due(s, BAD, "bead", b, 1);
            doc.due(s, b + 1, "bind", 0, 10 + b, 1, 1);
            doc.due(s, 10 + b, "bead", b, 1);
        }
        doc.due(s, FULL, "bind", 0, 14, 1, 1);
        doc.due(s, 4, "rule", 0);
        doc.due(s, BAD, "bead", 4, 1);
        doc.due(s, BAD, "bead", -1, 1);
    }

    private static void bounds(Doc doc, String sentence, int what, int least, int most) {
        doc.of(Doc.TERMS, sentence);
        int[] row = {1, 10, 5, 5};
        for (int v : new int[] {least, most}) {
            row[what] = v;
            Subject s = new Subject();
            doc.due(s, 1, "bind", row);
            doc.due(s, v, "bead", 0, what);
            doc.due(s, v, "alter", 0, what, v);
        }
        doc.beyond(least, most, what, "bind", 1, 10, 5, 5);
        doc.beyond(least, most, 2, "alter", 0, what, least);
    }

    private static void traits(Doc doc) {
        bounds(doc, "each of a KIND (0 plain, 1 rope, 2 block, 3 slack: what its spring is)", 0, 0, 3);
        int kind = 0;
        for (String name : new String[] {"plain", "rope", "block", "slack"}) {
            doc.due(Subject.told(name + " 1 1 1;"), kind, "bead", 0, 0);
            kind++;
        }
        bounds(doc, "with a REST (0 to 60)", 1, 0, 60);
        bounds(doc, "a STIFF (0 to 9)", 2, 0, 9);
        bounds(doc, "a MASS (1 to 9)", 3, 1, 9);
    }

    private static void places(Doc doc) {
        doc.of(Doc.TERMS, "AT a place (0 to 300; at first REST further than the one ahead of it)");
        Subject s = new Subject().with("bind", 0, 60, 1, 1).with("bind", 0, 0, 1, 1).with("bind", 0, 1, 1, 1);
        doc.due(s, 60, "bead", 0, 4);
        doc.due(s, 60, "bead", 1, 4);
        doc.due(s, 61, "bead", 2, 4);
        doc.due(s, 61, "alter", 2, 4, 300);
        doc.due(s, 300, "alter", 2, 4, 0);
        doc.due(s, 0, "bead", 2, 4);
        doc.beyond(0, 300, 2, "alter", 0, 4, 0);
        Subject far = Subject.told("rope 60 0 1;".repeat(4));
        for (int b = 0; b < 4; b++) {
            doc.due(far, 60 * b + 60, "bead", b, 4);
        }
        doc.of(Doc.TERMS, "with a SPEED (-40 to 40; 0 at first)");
        doc.due(far, 100, "bead", 3, 5);
        doc.due(far.put(3, 240, 39), 139, "bead", 3, 5);
        doc.due(far, 140, "hit", 3, 10);
        doc.due(far, 140, "hit", 3, 10);
        doc.due(far.put(3, 240, -39), 61, "bead", 3, 5);
        doc.due(far, 60, "hit", 3, 8);
        doc.due(far, 60, "hit", 3, 8);
        doc.of(Doc.TERMS, "The BEAD ahead of the first one is the wall, AT 0.");
        Subject one = new Subject().with("bind", 0, 0, 2, 1);
        doc.due(one, 0, "bead", 0, 4);
        doc.due(one.put(0, 300, 0), 1300, "bead", 0, 6);
        doc.due(one, 10600, "bead", 0, 7);
        doc.of(Doc.TERMS, "DRAG (0 to 3; 0 at first)");
        doc.due(one, 0, "drag", 3);
        doc.due(one, 3, "drag", 0);
        doc.due(one, 0, "rule", 3);
        doc.beyond(0, 3, 0, "drag", 0);
    }

    private static void knocks(Doc doc) {
        doc.of(Doc.TERMS, "KNOCKS (12 at most), by order, each of a BEAD (0 to 3) by so much (-9 to 9)");
        Subject s = new Subject();
        for (int i = 0; i < 12; i++) {
            doc.due(s, i + 1, "add", i % 2 * 3, i % 2 == 0 ? i : 18 - i);
        }
        doc.due(s, FULL, "add", 0, 9);
        doc.due(s, 12, "rule", 1);
        for (int i = 0; i < 12; i++) {
            doc.due(s, i % 2 * 3, "knock", i, 0);
            doc.due(s, i % 2 == 0 ? i : 18 - i, "knock", i, 1);
        }
        doc.beyond(0, 3, 0, "add", 0, 9);
        doc.beyond(0, 18, 1, "add", 0, 9);
        doc.of(Doc.TERMS, "TICK (0 at first)");
        doc.due(s, 0, "rule", 2);
        doc.due(Subject.told("drag 1;"), 0, "rule", 2);
    }

    /** A spring of stiffness 1 at rest 50: what it pulls by is its stretch, or 0. */
    private static void pull(Doc doc, int kind, int stretch, int pull) {
        Subject s = new Subject().with("bind", kind, 50, 1, 1).put(0, 50 + stretch, 0);
        doc.due(s, 1000 + stretch, "bead", 0, 6);
        doc.due(s, 10000 + pull, "bead", 0, 7);
    }

    private static void pulls(Doc doc) {
        doc.of(Doc.TERMS, "PULL by KIND: plain STIFF times STRETCH");
        for (int stretch : new int[] {-50, -1, 0, 1, 250}) {
            pull(doc, 0, stretch, stretch);
        }
        doc.of(Doc.TERMS, "rope as a plain one, but 0, if that is below 0");
        for (int stretch : new int[] {-50, -1, 0, 1, 250}) {
            pull(doc, 1, stretch, stretch < 0 ? 0 : stretch);
        }
        doc.of(Doc.TERMS, "block as a plain one, but 0, if that is above 0");
        for (int stretch : new int[] {-50, -1, 0, 1, 250}) {
            pull(doc, 2, stretch, stretch > 0 ? 0 : stretch);
        }
        doc.of(Doc.TERMS, "slack as a plain one, but 0, if STRETCH is -5 to 5");
        for (int stretch : new int[] {-50, -7, -6, 6, 7, 250}) {
            pull(doc, 3, stretch, stretch);
        }
        for (int stretch = -5; stretch <= 5; stretch++) {
            pull(doc, 3, stretch, 0);
        }
        // The stretch counts, not the pull: 9 times 1 is within, 1 times 6 is beyond.
        doc.due(new Subject().with("bind", 3, 50, 9, 1).put(0, 51, 0), 10000, "bead", 0, 7);
        doc.due(new Subject().with("bind", 3, 50, 9, 1).put(0, 44, 0), 10000 - 54, "bead", 0, 7);
    }

    private static void sights(Doc doc) {
        doc.of(Doc.TERMS, "SEEN (6): behind n TICKS (0 to 40) from now on a BEAD is AT a place.");
        Subject s = new Subject().with("bind", 0, 30, 0, 1).put(0, 30, 1);
        for (int i = 0; i < 6; i++) {
            doc.due(s, i + 1, "see", 8 * i, 0, 30 + 8 * i);
        }
        doc.due(s, FULL, "see", 0, 0, 30);
        doc.due(s, 6, "count", 0);
        doc.due(s, 1, "stiffs", 0);
        // From now on: a tick later the bead is a place further than was seen.
        doc.due(s.with("ticks", 1), 0, "stiffs", 0);
        doc.due(s.put(0, 30, 1), 1, "stiffs", 0);
        doc.beyond(0, 40, 0, "see", 0, 0, 0);
    }

    private static void sheets(Doc doc) {
        doc.of(Doc.TERMS, "SHEETS 0 to 3 are rows of BYTES (lane 0), SHORTS (1), INTS (2) with 0 to 40 CELLS, or nothing (at first).");
        for (int k = 0; k <= 3; k++) {
            doc.due(new Subject(), -11, "lay", k, 0, 0);
            for (int lane = 0; lane <= 2; lane++) {
                Subject s = new Subject();
                doc.due(s, 1, "sheet", k, lane, 0);
                doc.due(s, -12, "lay", k, 0, 0);
                doc.due(s, 1, "sheet", k, lane, 40);
                doc.due(s, 1, "lay", k, 0, 3);
                doc.due(s, 1, "lay", k, 39, 18);
                doc.due(s, -12, "lay", k, 40, 0);
                doc.due(s, 1, "read", k, lane, 38, 1);
                doc.due(s, 18, "knock", 0, 1);
            }
        }
        doc.beyond(0, 3, 0, "sheet", 0, 0, 1);
        doc.beyond(0, 2, 1, "sheet", 0, 0, 1);
        doc.above(40, 2, "sheet", 0, 0, 1);
    }

    private static void torn(Doc doc, Subject s, int fault, int... read) {
        doc.due(s, 0, "read", read);
        doc.due(s, fault, "torn");
    }

    private static void faultsOfSheets(Doc doc) {
        doc.of(Doc.TERMS, "A FAULT is what the machine finds: 1 NULL (nothing)");
        torn(doc, new Subject(), 1, 3, 0, 0, 1);
        doc.refusedIn(State.BUSY, -11, "lay", 3, 0, 0);
        doc.of(Doc.TERMS, "2 INDEX");
        torn(doc, new Subject().with("sheet", 3, 0, 2), 2, 3, 0, 1, 1);
        doc.refusedIn(State.BUSY, -12, "lay", 0, 6, 0);
        doc.of(Doc.TERMS, "3 CAST (another lane)");
        for (int lane = 0; lane <= 2; lane++) {
            for (int as = 0; as <= 2; as++) {
                Subject s = new Subject().with("sheet", 3, lane, 1);
                torn(doc, s, lane == as ? 2 : 3, 3, as, 0, 1);
            }
        }
        doc.of(Doc.TERMS, "4 SIZE (below 0)");
        for (int n : new int[] {-1, -40, -41, Integer.MIN_VALUE}) {
            doc.refused(-14, "sheet", 0, 0, n);
        }
    }
}
