import java.util.ArrayDeque;
import java.util.ArrayList;
import java.util.Deque;
import java.util.List;
import java.util.Map;
import java.util.Random;
import java.util.TreeMap;

/** Runs of 512 calls, most with numbers as told and some beyond, each answered as by the second writing of the class. */
public final class SecondTest {
    private static final Check check = new Check();
    private static final Random random = new Random(14);
    private static final int RUNS = 500;
    /** The calls by how often they are made; dear ones are rare. */
    private static final String[] CALLS = {
        "bind", "bind", "bind", "add", "add", "add", "hit", "hit", "alter", "alter", "alter", "drag", "cut", "drop", "calm",
        "ticks", "ticks", "rule", "rule", "bead", "bead", "bead", "knock", "knock", "runs", "ahead", "when", "rests",
        "stiff", "rest", "kind", "mass", "swap", "miss", "luck", "mean", "see", "see", "see", "forget", "kinds", "stiffs",
        "ask", "drift", "keep", "back", "sheet", "sheet", "lay", "lay", "lay", "lay", "read", "read", "torn", "count",
        "count", "fault", "feed", "end"};
    /** How often each call was answered, and how often it was refused by each answer; each fault by itself. */
    private static final Map<String, Integer> met = new TreeMap<>();

    private SecondTest() {
    }

    public static void main(String[] args) {
        for (int run = 0; run < RUNS; run++) {
            new SecondTest().run(run);
        }
        enough();
        check.end();
    }

    private final Subject subject = new Subject();
    private final Second second = new Second();
    private final Deque<String> latest = new ArrayDeque<>();
    private int calls = 0;
    private boolean agreed = true;

    private void run(int number) {
        // Every third run begins late, so that the last tick is met.
        if (number % 3 == 2) {
            for (int i = 0; i < 99; i++) {
                both("ticks", 100);
            }
        }
        while (calls < Subject.MOST_CALLS && agreed) {
            if (upTo(40) == 0) {
                tell(aText());
            } else if (upTo(60) == 0) {
                seeAll();
            } else {
                String call = CALLS[upTo(CALLS.length - 1)];
                both(call, numbers(call));
            }
        }
        check.holds("run " + number + ": all answers agree; the latest calls are " + latest, agreed);
    }

    private void both(String call, int... numbers) {
        if (calls == Subject.MOST_CALLS || !agreed) {
            return;
        }
        calls++;
        long want = second.ask(call, numbers);
        long got = subject.ask(call, numbers);
        latest.add(Subject.spell(call, numbers) + " " + got);
        if (latest.size() > 30) {
            latest.remove();
        }
        check.due(Subject.spell(call, numbers), got, want);
        agreed = got == want;
        boolean isFault = call.equals("fault") || call.equals("torn");
        met.merge(call + (want >= 0 && !isFault ? "" : " " + want), 1, Integer::sum);
    }

    private static int upTo(int most) {
        return random.nextInt(most + 1);
    }

    private static int between(int least, int most) {
        return most < least ? least : least + random.nextInt(most - least + 1);
    }

    private int[] numbers(String call) {
        int[][] bounds = second.bounds(call);
        int[] numbers = new int[bounds.length];
        for (int i = 0; i < numbers.length; i++) {
            int least = Math.max(bounds[i][0], -2);
            int most = Math.min(bounds[i][1], 300);
            if (upTo(29) == 0) {
                int[] edges = {least - 1, least, most, most + 1, Integer.MIN_VALUE, Integer.MAX_VALUE, -1, 41};
                numbers[i] = edges[upTo(edges.length - 1)];
            } else {
                numbers[i] = between(least, most);
            }
        }
        suit(call, numbers);
        return numbers;
    }

    /** Numbers that are told by other numbers, or whose whole range would mostly be refused or take all away. */
    private static void suit(String call, int[] a) {
        if (upTo(19) == 0) {
            return;
        }
        switch (call) {
            case "alter" -> a[2] = between(a[1] == 3 ? 1 : 0, new int[] {3, 60, 9, 9, 300}[Math.floorMod(a[1], 5)]);
            case "cut", "drop", "forget" -> a[0] += upTo(3);
            case "stiff", "rest", "kind", "mass" -> a[1] = upTo(9) == 0 ? a[1] : upTo(25);
            case "swap", "miss" -> a[0] = upTo(9) == 0 ? a[0] : upTo(25);
            case "sheet" -> a[2] = upTo(3) == 0 ? a[2] : upTo(12);
            case "lay" -> {
                a[1] = upTo(12);
                a[2] = upTo(3) == 0 ? random.nextInt() : 256 * upTo(1) + upTo(3);
            }
            case "read" -> {
                a[2] = upTo(5);
                a[3] = upTo(4) == 0 ? a[3] : upTo(5);
            }
            case "drift" -> a[0] = random.nextInt();
            case "feed" -> a[0] = a[0] < 0 || a[0] > 127 ? a[0] : "abcdgiklnoprst0123456789;; ".charAt(upTo(26));
            default -> {
            }
        }
    }

    /** Sees what is so by the second writing, so that not all that is seen rules all out. */
    private void seeAll() {
        for (int i = upTo(3); i >= 0; i--) {
            int b = upTo(3);
            int n = upTo(40);
            long at = second.ask("ahead", b, n, 0);
            if (at >= 0) {
                both("see", n, b, (int) at);
            }
        }
        for (int b = 0; b < 4; b++) {
            both("kinds", b);
            both("stiffs", b);
            both("ask", b, 0);
            both("ask", b, 1);
        }
    }

    private void tell(String text) {
        both("end", 0);
        for (int i = 0; i < text.length(); i++) {
            both("feed", text.charAt(i));
        }
        both("text");
        both("fault");
        both("count", 2);
    }

    private static String blanks() {
        return upTo(4) == 0 ? "  " : upTo(3) == 0 ? "" : " ";
    }

    private static String aText() {
        List<String> tokens = new ArrayList<>();
        boolean many = upTo(5) == 0;
        int lines = many ? 20 : upTo(7);
        boolean dragTold = false;
        for (int i = 0; i < lines; i++) {
            int sort = many && upTo(4) > 0 ? 6 : upTo(7);
            if (sort < 4) {
                tokens.addAll(List.of(new String[] {"plain", "rope", "block", "slack"}[sort], "" + upTo(60), "" + upTo(9),
                        "" + (1 + upTo(8)), ";"));
            } else if (sort == 4 && (!dragTold || upTo(5) == 0)) {
                dragTold = true;
                tokens.addAll(List.of("drag", "" + upTo(3), ";"));
            } else {
                tokens.addAll(List.of(upTo(1) == 0 ? "on" : "back", "" + upTo(3), "" + upTo(9), ";"));
            }
        }
        if (!tokens.isEmpty() && upTo(2) == 0) {
            spoil(tokens);
        }
        StringBuilder text = new StringBuilder(blanks());
        for (int i = 0; i < tokens.size(); i++) {
            // Two numbers need a blank between them; all others are told apart without one.
            boolean needed = Character.isDigit(tokens.get(i).charAt(0));
            text.append(needed && upTo(30) > 0 ? " " : blanks()).append(tokens.get(i));
        }
        return text.append(blanks()).toString();
    }

    private static void spoil(List<String> tokens) {
        int i = upTo(tokens.size() - 1);
        String[] others = {";", "0", "00", "09", "10", "61", "100", "4", "x", "planes", "on", "drag", "D", "-", "\n", "\t", "9a", "ropes"};
        switch (upTo(3)) {
            case 0 -> tokens.remove(i);
            case 1 -> tokens.add(i, others[upTo(others.length - 1)]);
            case 2 -> tokens.set(i, others[upTo(others.length - 1)]);
            default -> tokens.subList(i, tokens.size()).clear();
        }
    }

    private static void metOften(String what, int times) {
        check.holds(what + " was met often: " + met.get(what), met.getOrDefault(what, 0) >= times);
    }

    /** Runs of calls that were mostly refused would hold little. */
    private static void enough() {
        List<String> withoutNumbers = List.of("calm", "rests", "torn", "fault");
        for (String call : CALLS) {
            if (!call.equals("torn") && !call.equals("fault")) {
                metOften(call, 100);
            }
            if (!withoutNumbers.contains(call)) {
                metOften(call + " -1", 10);
            }
        }
        metOften("text", 500);
        String[] answers = {"feed -3", "bind -3", "add -3", "ticks -3", "see -3", "luck -2", "drift -2", "back -2", "when -4",
            "rests -4", "swap -4", "miss -4", "ask -4", "count -4", "sheet -14", "lay -11", "lay -12", "read -20", "read -21",
            "fault 0", "fault 1", "fault 2", "fault 3", "fault 4", "fault 5", "torn 0", "torn 1", "torn 2", "torn 3"};
        for (String answer : answers) {
            metOften(answer, 10);
        }
    }
}
