import java.io.IOException;
import java.nio.file.Files;
import java.nio.file.Path;

/** What it is, and those sentences of the terms that name no bound: what a text is, the order of a tick, the headings. */
final class SenseBounds {
    private static final int NONE = SpringBeads.NONE, STATE = SpringBeads.STATE;
    private static final String[] KINDS = {"plain", "rope", "block", "slack"};

    private SenseBounds() {
    }

    static void all(Doc doc) throws IOException {
        line(doc);
        kinds(doc);
        plan(doc);
        ticks(doc);
        best(doc);
        odds(doc);
        seen(doc);
        images(doc);
        texts(doc);
        laterCalls(doc);
        stretch(doc);
        grammar(doc);
        order(doc);
        atOnce(doc);
        headings(doc);
    }

    /** A bead at 150 whose spring does nothing. */
    private static Subject free() {
        return new Subject().with("bind", 0, 50, 0, 1).put(0, 150, 0);
    }

    // ---- what it is

    private static void line(Doc doc) {
        doc.of(Doc.TERMS, "Beads on springs: beads on a line behind one wall, each bound to the one ahead of it by a spring of a kind");
        Subject s = Subject.told("plain 30 1 1;rope 20 1 1;block 10 1 1;");
        s.with("alter", 1, 4, 55);
        // Its own spring and that of the one behind it are stretched; the first one is bound to the wall alone.
        doc.due(s, 1000, "bead", 0, 6);
        doc.due(s, 1005, "bead", 1, 6);
        doc.due(s, 995, "bead", 2, 6);
        for (int b = 0; b < 3; b++) {
            doc.due(s, b, "bead", b, 0);
        }
    }

    private static void kinds(Doc doc) {
        doc.of(Doc.TERMS, "plain ones that pull and push, ropes that pull alone, blocks that push alone, slack ones that do nothing near their rest");
        int[] behindPull = {-4, -4, 0, 0};
        int[] behindPush = {4, 0, 4, 0};
        for (int kind = 0; kind < 4; kind++) {
            Subject s = new Subject().with("bind", kind, 50, 9, 1);
            doc.due(s.put(0, 55, 0), 100 + behindPull[kind], "ahead", 0, 1, 1);
            doc.due(s.put(0, 45, 0), 100 + behindPush[kind], "ahead", 0, 1, 1);
        }
        Subject slack = new Subject().with("bind", 3, 50, 9, 1);
        doc.due(slack.put(0, 56, 0), 95, "ahead", 0, 1, 1);
        doc.due(slack.put(0, 44, 0), 105, "ahead", 0, 1, 1);
    }

    private static void plan(Doc doc) {
        doc.of(Doc.TERMS, "knocks by a plan that comes round, drag");
        Subject s = free().with("add", 0, 12).with("add", 0, 7).with("drag", 1);
        for (int i = 0; i < 6; i++) {
            doc.due(s.with("ticks", 1), i % 2 == 0 ? 102 : 100, "bead", 0, 5);
        }
    }

    private static void ticks(Doc doc) {
        doc.of(Doc.TERMS, "ticks run, where each bead is, how fast, how far the last one swings, when one comes to a place, when all rests");
        // By drag 1 from speed 5: 4, 3, 2, 1, 0 places.
        Subject s = free().put(0, 150, 5).with("drag", 1);
        doc.due(s, 157, "ahead", 0, 2, 0);
        doc.due(s, 103, "ahead", 0, 2, 1);
        doc.due(s, 10, "runs", 9, 1);
        doc.due(s, 3, "when", 0, 158);
        doc.due(s, 5, "rests");
        doc.due(s, 10, "ticks", 5);
        doc.due(s, 160, "bead", 0, 4);
        doc.due(s, 100, "bead", 0, 5);
        doc.due(s, 0, "rests");
    }

    private static void best(Doc doc) {
        doc.of(Doc.TERMS, "the stiffness, the rest, the kind, the mass by which the last one swings least, which two knocks should change, which had better not be");
        Subject s = new Subject().with("bind", 0, 50, 8, 1).put(0, 60, 0);
        int[] least = {0, 59, 2, 9};
        int i = 0;
        for (String call : new String[] {"stiff", "rest", "kind", "mass"}) {
            doc.due(s, least[i], call, 0, 10, 0);
            doc.due(s, 0, call, 0, 10, 1);
            i++;
        }
        // As it is 3, 6, -3 places: 9 away. The last two changed 3, -6, -3: 6 away. Without the first 0, 3, -6: 3 away.
        Subject plan = free().with("add", 0, 12).with("add", 0, 12).with("add", 0, 0);
        doc.due(plan, 9, "runs", 3, 1);
        doc.due(plan, 102, "swap", 3, 0);
        doc.due(plan, 6, "swap", 3, 1);
        doc.due(plan, 0, "miss", 3, 0);
        doc.due(plan, 3, "miss", 3, 1);
    }

    private static void odds(Doc doc) {
        doc.of(Doc.TERMS, "knocks that miss by odds");
        Subject s = free().with("add", 0, 13);
        doc.due(s, 7, "luck", 3, 154, 1, 0);
        doc.due(s, 10, "luck", 3, 154, 1, 1);
        doc.due(s, 14, "mean", 3, 1, 0);
        doc.due(s, 5, "mean", 3, 1, 1);
    }

    private static void seen(Doc doc) {
        doc.of(Doc.TERMS, "of which kind a spring is, how stiff, told from where a bead was, when to look next");
        // A stretch of 10: a tick moves it by its stiffness.
        Subject s = new Subject().with("bind", 0, 50, 9, 1).put(0, 60, 0);
        doc.due(s, 1, "ask", 0, 0);
        doc.due(s, 1, "ask", 0, 1);
        s.with("see", 1, 0, 51);
        doc.due(s, 1 | 2 | 8, "kinds", 0);
        doc.due(s, 1 << 9, "stiffs", 0);
        doc.due(s, NONE, "ask", 0, 0);
    }

    private static void images(Doc doc) {
        doc.of(Doc.TERMS, "knocks by a seed; images");
        // 1 becomes 1103527590, of which 16838 is got; by 8 it is 2104, which leaves 14 by 19.
        Subject s = free();
        doc.due(s, 5, "drift", 1, 1, 0);
        doc.due(s, 155, "drift", 1, 1, 1);
        doc.due(s, 0, "keep", 1);
        doc.due(s.put(0, 9, 9).with("ticks", 1), 18, "bead", 0, 4);
        doc.due(s, 0, "back", 1);
        doc.due(s, 150, "bead", 0, 4);
        doc.due(s, STATE, "back", 0);
    }

    private static void texts(Doc doc) {
        doc.of(Doc.TERMS, "all told in a text letter by letter, knocks read from sheets whose faults the machine finds.");
        Subject s = new Subject();
        String text = "rope 7 8 9;";
        for (int i = 0; i < text.length(); i++) {
            doc.due(s, i + 1, "feed", text.charAt(i));
            doc.due(s, 0, "rule", 0);
        }
        doc.due(s, 1, "text");
        doc.due(s, 1, "rule", 0);
        s.with("sheet", 0, 0, 3).with("lay", 0, 0, 2).with("lay", 0, 1, 10);
        doc.due(s, 1, "read", 0, 0, 0, 2);
        doc.due(s, 2, "torn");
        doc.due(s, 2, "knock", 0, 0);
        doc.due(s, 10, "knock", 0, 1);
    }

    /** Which answers they are is free, but there are answers: no call throws. */
    private static void laterCalls(Doc doc) {
        doc.of(Doc.TERMS, "; what later calls answer is free.");
        SpringBeads x = new SpringBeads();
        int answers = 0;
        for (int i = 0; i < 2000; i++) {
            x.feed(i % 128);
            x.bind(i % 4, i % 61, i % 10, 1 + i % 9);
            x.add(i % 4, i % 19);
            x.see(i % 41, i % 4, i % 301);
            x.read(i % 4, i % 3, i % 40, i % 21);
            x.ticks(100);
            answers++;
        }
        doc.due("rounds", answers, 2000);
    }

    // ---- terms

    private static void stretch(Doc doc) {
        doc.of(Doc.TERMS, "STRETCH of a BEAD: its place less that of the one ahead of it, less REST.");
        Subject s = Subject.told("plain 30 5 1;slack 20 6 1;");
        int[][] places = {{30, 50}, {0, 300}, {300, 0}, {50, 30}, {29, 50}, {300, 300}};
        for (int[] place : places) {
            s.with("alter", 0, 4, place[0]).with("alter", 1, 4, place[1]);
            doc.due(s, 1000 + place[0] - 30, "bead", 0, 6);
            doc.due(s, 1000 + place[1] - place[0] - 20, "bead", 1, 6);
        }
    }

    private static void grammar(Doc doc) {
        doc.of(Doc.TERMS, "text: { line } line: K N N N ; | drag N ; | on N N ; | back N N ; K: plain | rope | block | slack");
        String[] lines = {"plain 1 2 3;", "rope 1 2 3;", "block 1 2 3;", "slack 1 2 3;", "drag 1;", "on 1 2;", "back 1 2;"};
        for (String first : lines) {
            doc.due("text " + first, new Subject().fed(first).ask("text"), 1);
            for (String second : lines) {
                long want = first.equals("drag 1;") && second.equals(first) ? -17 : 2;
                doc.due("text " + first + second, new Subject().fed(first + second).ask("text"), want);
            }
        }
        String all = String.join("", lines);
        doc.due("text " + all, new Subject().fed(all).ask("text"), lines.length);
        doc.due("text of no line", new Subject().ask("text"), 0);
        // A number too few, a number too many, no end of the line.
        for (String line : lines) {
            String open = line.substring(0, line.length() - 1);
            doc.due("text " + open, new Subject().fed(open).ask("text"), -10 - open.length());
            doc.due("text " + open + " 1;", new Subject().fed(open + " 1;").ask("text"), -10 - line.length());
            String few = open.substring(0, open.length() - 2) + ";";
            doc.due("text " + few, new Subject().fed(few).ask("text"), -10 - few.length() + 1);
        }
        doc.of(Doc.TERMS, "K: a BEAD more with a spring of that KIND: REST, STIFF, MASS. drag: DRAG.");
        Subject s = Subject.told("slack 5 6 7;drag 3;plain 8 9 1;rope 2 3 4;block 60 0 9;");
        int[][] beads = {{3, 5, 6, 7, 5}, {0, 8, 9, 1, 13}, {1, 2, 3, 4, 15}, {2, 60, 0, 9, 75}};
        for (int b = 0; b < beads.length; b++) {
            for (int what = 0; what < beads[b].length; what++) {
                doc.due(s, beads[b][what], "bead", b, what);
            }
            doc.due(Subject.told(KINDS[b] + " 1 1 1;"), b, "bead", 0, 0);
        }
        doc.due(s, 3, "rule", 3);
    }

    private static void order(Doc doc) {
        doc.of(Doc.TERMS, "A TICK, in this order.");
        // The knock, kept to 40, then the pull: 38 and 9 are 40, less 2 is 38, less 3 by drag is 35.
        Subject s = new Subject().with("bind", 0, 50, 1, 1).put(0, 70, 38).with("add", 0, 18).with("drag", 3);
        doc.due(s, 35, "ticks", 1);
        doc.due(s, 105, "bead", 0, 4);
        doc.due(s, 135, "bead", 0, 5);
        // The pull, then drag: 2 less 1 is 1, and drag leaves none of it; drag first would leave 0 less 1.
        Subject slow = new Subject().with("bind", 0, 50, 1, 1).put(0, 60, 2).with("drag", 2);
        doc.due(slow, 0, "ticks", 1);
        doc.due(slow, 100, "bead", 0, 5);
        // The pull by where it was, not by where it goes: 20 by 10, though it goes by 28.
        Subject far = new Subject().with("bind", 0, 50, 1, 1).put(0, 70, 30);
        doc.due(far, 28, "ticks", 1);
        // The knock is that of the tick that there is ahead of all this, not behind it.
        Subject two = free().with("add", 0, 10).with("add", 0, 18);
        doc.due(two, 1, "ticks", 1);
        doc.due(two, 10, "ticks", 1);
        doc.of(Doc.TERMS, ": SPEED of its BEAD is so much more");
        Subject three = Subject.told("plain 50 0 1;plain 50 0 1;plain 50 0 1;on 1 9;back 1 4;");
        doc.due(three, 9, "ticks", 1);
        doc.due(three, 100, "bead", 0, 5);
        doc.due(three, 109, "bead", 1, 5);
        doc.due(three, 100, "bead", 2, 5);
        doc.due(three, 5, "ticks", 1);
        doc.due(three, 105, "bead", 1, 5);
    }

    private static void atOnce(Doc doc) {
        doc.of(Doc.TERMS, "Each BEAD is MOVED by the PULL of the one behind it");
        // The last one alone is stretched, by 20: it is pulled back by 2, the one ahead of it on by 2, others not at all.
        Subject s = Subject.told("plain 30 1 1;plain 30 1 1;plain 30 1 1;plain 30 1 1;").with("alter", 3, 4, 140);
        doc.due(s, 4, "ticks", 1);
        int[] then = {30, 60, 92, 138};
        for (int b = 0; b < 4; b++) {
            doc.due(s, then[b], "bead", b, 4);
        }
        // Were a bead moved by where others have gone to in the same tick, the second one would be, too.
        doc.due(Subject.told("plain 30 1 1;plain 30 9 1;").with("alter", 0, 4, 130).with("alter", 1, 4, 160), 10, "ticks", 1);
    }

    private static void heading(Doc doc, String source, String heading, String... calls) {
        StringBuilder said = new StringBuilder("Ahead of the calls ");
        for (String call : calls) {
            said.append(said.toString().endsWith("`") ? ", `" : "`").append(call).append('`');
        }
        doc.of(Doc.TERMS, said.append(" the interface says: ---- ").append(heading).append('.').toString());
        int from = source.indexOf("    // ---- " + heading + "\n");
        int to = source.indexOf("    // ----", from + 1);
        doc.holds("the class says so", from >= 0);
        for (String call : calls) {
            int at = Math.max(source.indexOf("    public int " + call + "("), source.indexOf("    public long " + call + "("));
            doc.holds(call + " is behind it", at > from && (to < 0 || at < to));
        }
    }

    private static void headings(Doc doc) throws IOException {
        String source = Files.readString(Path.of("src/main/java/SpringBeads.java"));
        heading(doc, source, "the text, what there is", "feed", "end", "text", "fault", "rule", "bead", "knock");
        heading(doc, source, "what is changed", "alter", "drag", "bind", "cut", "hit", "add", "drop", "calm");
        heading(doc, source, "ticks", "ticks", "runs", "ahead", "when", "rests");
        heading(doc, source, "what is best", "stiff", "rest", "kind", "mass", "swap", "miss");
        heading(doc, source, "knocks that miss", "luck", "mean");
        heading(doc, source, "where it was", "see", "forget", "kinds", "stiffs", "ask");
        heading(doc, source, "by a seed", "drift");
        heading(doc, source, "images, sheets", "keep", "back", "sheet", "lay", "read", "torn", "count");
    }
}
