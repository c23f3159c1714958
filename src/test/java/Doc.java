import java.io.IOException;
import java.nio.file.Files;
import java.nio.file.Path;
import java.util.Arrays;
import java.util.EnumMap;
import java.util.Map;
import java.util.regex.Matcher;
import java.util.regex.Pattern;

/**
 * The document, whose sentences tests quote word by word: each check is under the sentence that was quoted last. In the
 * end each word and each number of "What it is", the terms and the promises must have been quoted by some test.
 */
final class Doc {
    static final int TERMS = 0;
    private static final int PROMISES = 42;
    private static final int BAD = SpringBeads.BAD;
    private static final Pattern WORD = Pattern.compile("\\w+");

    private final Check check = new Check();
    private final String[] parts = new String[PROMISES + 1];
    private final boolean[][] quoted = new boolean[PROMISES + 1][];
    private final Map<State, Map<Probe, String>> twins = new EnumMap<>(State.class);
    private String under = "";
    private int heldUnder = 1;

    Doc(Path path) throws IOException {
        Arrays.fill(parts, "");
        for (String section : Files.readString(path).split("\n## ")) {
            String title = section.lines().findFirst().orElse("");
            String body = section.substring(title.length()).replaceAll("\\s+", " ");
            if (title.startsWith("Promise ")) {
                int n = Integer.parseInt(title.substring(8, title.indexOf(':')));
                parts[n] = body.replaceFirst("^ `[^`]*`: ", "");
            } else if (title.equals("What it is") || title.equals("Terms")) {
                parts[TERMS] += body.replaceAll("=+ \\d |```text |``` ", "");
            }
        }
        for (int i = 0; i <= PROMISES; i++) {
            quoted[i] = new boolean[parts[i].length()];
        }
    }

    /** A sentence of a promise, or of the terms; what is checked next is what it says. */
    void of(int part, String sentence) {
        check.holds("a check under " + under, heldUnder > 0);
        heldUnder = 0;
        under = (part == TERMS ? "terms" : "promise " + part) + " '" + sentence + "': ";
        int from = parts[part].indexOf(sentence);
        check.holds(under + "is in the document", from >= 0);
        while (from >= 0) {
            Arrays.fill(quoted[part], from, from + sentence.length(), true);
            from = parts[part].indexOf(sentence, from + 1);
        }
    }

    void due(String what, long got, long want) {
        heldUnder++;
        check.due(under + what, got, want);
    }

    void holds(String what, boolean so) {
        heldUnder++;
        check.holds(under + what, so);
    }

    void due(Subject s, long want, String call, int... numbers) {
        due(Subject.spell(call, numbers), s.ask(call, numbers), want);
    }

    void dueIn(State state, long want, String call, int... numbers) {
        due(state + " " + Subject.spell(call, numbers), state.make().ask(call, numbers), want);
    }

    /** Refused in any state, and all that can be asked answers as it does on a twin that was not called. */
    void refused(long want, String call, int... numbers) {
        for (State state : State.values()) {
            refusedIn(state, want, call, numbers);
        }
    }

    void refusedIn(State state, long want, String call, int... numbers) {
        for (Probe probe : Probe.values()) {
            Subject s = state.make();
            due(s, want, call, numbers);
            leaves(state + " " + Subject.spell(call, numbers), s, state, probe);
        }
    }

    void leaves(String what, Subject s, State state, Probe probe) {
        String was = twins.computeIfAbsent(state, key -> new EnumMap<>(Probe.class))
                .computeIfAbsent(probe, key -> probe.of(state.make()));
        holds(what + " leaves all as it was, asked by " + probe, was.equals(probe.of(s)));
    }

    /** A number just beyond its bounds, or far beyond, is BAD in any state; the others are as in the row. */
    void beyond(int least, int most, int which, String call, int... row) {
        below(least, which, call, row);
        above(most, which, call, row);
    }

    void below(int least, int which, String call, int... row) {
        refused(BAD, call, changed(row, which, least - 1));
        refused(BAD, call, changed(row, which, Integer.MIN_VALUE));
    }

    void above(int most, int which, String call, int... row) {
        refused(BAD, call, changed(row, which, most + 1));
        refused(BAD, call, changed(row, which, Integer.MAX_VALUE));
    }

    private static int[] changed(int[] row, int which, int v) {
        int[] other = row.clone();
        other[which] = v;
        return other;
    }

    /** At both of its bounds a number is taken in that state. */
    void within(State state, int least, int most, int which, String call, int... row) {
        for (int v : new int[] {least, most}) {
            int[] numbers = changed(row, which, v);
            holds(state + " " + Subject.spell(call, numbers) + " is taken", state.make().ask(call, numbers) >= 0);
        }
    }

    void end() {
        for (int i = 0; i <= PROMISES; i++) {
            Matcher word = WORD.matcher(parts[i]);
            while (word.find()) {
                String near = parts[i].substring(Math.max(0, word.start() - 30), word.end());
                check.holds("part " + i + ", a test quotes '.. " + near + "'", quoted[i][word.start()]);
            }
            check.holds("part " + i + " is in the document and quoted", anyOf(quoted[i]));
        }
        check.end();
    }

    private static boolean anyOf(boolean[] row) {
        for (boolean b : row) {
            if (b) {
                return true;
            }
        }
        return false;
    }
}
