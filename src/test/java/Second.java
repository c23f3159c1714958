import java.util.ArrayList;
import java.util.Collections;
import java.util.HashMap;
import java.util.List;
import java.util.Map;
import java.util.function.IntFunction;
import java.util.regex.Matcher;
import java.util.regex.Pattern;

/**
 * The whole class written a second time, with all of Java and ticks by the model: a tape that is matched by
 * patterns, sheets that are rows of the machine, whose faults it finds itself. It is asked as a Subject is.
 */
final class Second {
    private static final int BAD = SpringBeads.BAD, STATE = SpringBeads.STATE;
    private static final int FULL = SpringBeads.FULL, NONE = SpringBeads.NONE;
    private static final int ANY_LEAST = Integer.MIN_VALUE, ANY_MOST = Integer.MAX_VALUE;

    /** What is seen: behind n ticks bead b is at place v. */
    private record Sight(int n, int b, int v) {
    }

    private Model now = new Model();
    private final StringBuilder tape = new StringBuilder();
    private int fault = 0;
    private List<Sight> seen = new ArrayList<>();
    private final Model[] images = new Model[2];
    private final Object[] sheets = new Object[4];
    private int torn = 0;

    /** The bounds of each number of a call, as the document tells them; a bead, a knock, n first ones: by what there is. */
    int[][] bounds(String call) {
        int[] bead = {0, now.beads.size() - 1}, either = {0, 1}, place = {0, 300}, hard = {0, 18}, any = {ANY_LEAST, ANY_MOST};
        int[] sheet = {0, 3}, lane = {0, 2};
        return switch (call) {
            case "feed" -> new int[][] {{0, 127}};
            case "end" -> new int[][] {{0, tape.length()}};
            case "text", "fault", "calm", "rests", "torn" -> new int[][] {};
            case "rule", "count" -> new int[][] {{0, 5}};
            case "bead" -> new int[][] {bead, {0, 7}};
            case "knock" -> new int[][] {{0, now.knocks.size() - 1}, either};
            // The last one is looked at by what the second one is.
            case "alter" -> new int[][] {bead, {0, 4}, any};
            case "drag" -> new int[][] {{0, 3}};
            case "bind" -> new int[][] {{0, 3}, {0, 60}, {0, 9}, {1, 9}};
            case "cut" -> new int[][] {{0, now.beads.size()}};
            case "hit" -> new int[][] {bead, hard};
            case "add" -> new int[][] {{0, 3}, hard};
            case "drop" -> new int[][] {{0, now.knocks.size()}};
            case "ticks" -> new int[][] {{0, 100}};
            case "runs" -> new int[][] {{0, 200}, {0, 3}};
            case "ahead" -> new int[][] {bead, {0, 200}, either};
            case "when" -> new int[][] {bead, place};
            case "stiff", "rest", "kind", "mass" -> new int[][] {bead, {0, 100}, either};
            case "swap", "miss" -> new int[][] {{0, 100}, either};
            case "luck" -> new int[][] {{0, 10}, place, {0, 8}, either};
            case "mean" -> new int[][] {{0, 10}, {0, 8}, either};
            case "see" -> new int[][] {{0, 40}, bead, place};
            case "forget" -> new int[][] {{0, seen.size()}};
            case "kinds", "stiffs" -> new int[][] {bead};
            case "ask" -> new int[][] {bead, either};
            case "drift" -> new int[][] {any, {1, 200}, either};
            case "keep", "back" -> new int[][] {{0, 1}};
            // Below 0 is a fault, above 40 is BAD.
            case "sheet" -> new int[][] {sheet, lane, {ANY_LEAST, 40}};
            case "lay" -> new int[][] {sheet, any, any};
            case "read" -> new int[][] {sheet, lane, any, {0, 20}};
            default -> throw new IllegalArgumentException(call);
        };
    }

    long ask(String call, int... a) {
        int[][] bounds = bounds(call);
        for (int i = 0; i < bounds.length; i++) {
            if (a[i] < bounds[i][0] || a[i] > bounds[i][1]) {
                return BAD;
            }
        }
        return switch (call) {
            case "feed", "end", "text", "fault", "rule", "bead", "knock" -> told(call, a);
            case "alter", "drag", "bind", "cut", "hit", "add", "drop", "calm" -> changed(call, a);
            case "ticks", "runs", "ahead", "when", "rests" -> run(call, a);
            case "stiff", "rest", "kind", "mass", "swap", "miss" -> best(call, a);
            case "luck", "mean" -> odds(call, a);
            case "see", "forget", "kinds", "stiffs", "ask" -> sights(call, a);
            case "drift" -> drift(a[0], a[1], a[2]);
            default -> kept(call, a);
        };
    }

    // ---- the text, what there is

    private long told(String call, int[] a) {
        switch (call) {
            case "feed":
                if (tape.length() == 160) {
                    return FULL;
                }
                return tape.append((char) a[0]).length();
            case "end":
                int had = tape.length();
                tape.delete(a[0], had);
                return had;
            case "text":
                return text();
            case "fault":
                return fault;
            case "rule":
                int still = 0;
                for (int b = 0; b < now.beads.size(); b++) {
                    still += now.beads.get(b).speed() == 0 ? 1 << b : 0;
                }
                return new int[] {now.beads.size(), now.knocks.size(), now.tick, now.drag, still, now.last()}[a[0]];
            case "bead":
                Model.Bead bead = now.beads.get(a[0]);
                int ahead = a[0] == 0 ? 0 : now.beads.get(a[0] - 1).at();
                int stretch = bead.at() - ahead - bead.rest();
                boolean pulls = bead.kind() == 0 || bead.kind() == 1 && stretch > 0 || bead.kind() == 2 && stretch < 0
                        || bead.kind() == 3 && Math.abs(stretch) > 5;
                return new int[] {bead.kind(), bead.rest(), bead.stiff(), bead.mass(), bead.at(), 100 + bead.speed(),
                    1000 + stretch, 10000 + (pulls ? bead.stiff() * stretch : 0)}[a[1]];
            default:
                Model.Knock knock = now.knocks.get(a[0]);
                return a[1] == 0 ? knock.bead() : 9 + knock.by();
        }
    }

    private static final class Fault extends Exception {
        private static final long serialVersionUID = 1;
        final int what;
        final int place;

        Fault(int what, int place) {
            this.what = what;
            this.place = place;
        }
    }

    /** Reads one token behind another, each only when it is asked for. */
    private static final class Tokens {
        private static final Pattern TOKEN = Pattern.compile(" *(?:([a-z]+)|([0-9]+)|(;)|([^ ])|$)", Pattern.DOTALL);
        private final String text;
        private final Matcher matcher;
        private int behind = 0;
        int place = 0;

        Tokens(String text) {
            this.text = text;
            matcher = TOKEN.matcher(text);
        }

        private void next() throws Fault {
            if (!matcher.find(behind) || matcher.start() != behind) {
                throw new IllegalStateException("a token is always found");
            }
            behind = matcher.end();
            place = text.length();
            for (int group = 1; group <= 4; group++) {
                place = matcher.start(group) >= 0 ? matcher.start(group) : place;
            }
            if (matcher.start(4) >= 0 || matcher.start(2) >= 0 && matcher.end(2) - matcher.start(2) > 2) {
                throw new Fault(1, place);
            }
        }

        /** A name that begins a line, or null at the end. */
        String name() throws Fault {
            next();
            if (place == text.length()) {
                return null;
            }
            String name = matcher.group(1);
            if (name == null || !name.matches("plain|rope|block|slack|drag|on|back")) {
                throw new Fault(2, place);
            }
            return name;
        }

        int number(int least, int most) throws Fault {
            next();
            if (matcher.group(2) == null) {
                throw new Fault(2, place);
            }
            int number = Integer.parseInt(matcher.group(2));
            if (number < least || number > most) {
                throw new Fault(3, place);
            }
            return number;
        }

        void semicolon() throws Fault {
            next();
            if (matcher.group(3) == null) {
                throw new Fault(2, place);
            }
        }
    }

    private long text() {
        Tokens tokens = new Tokens(tape.toString());
        tape.setLength(0);
        Model told = new Model();
        int lines = 0;
        try {
            boolean dragTold = false;
            for (String name = tokens.name(); name != null; name = tokens.name()) {
                line(told, name, dragTold, tokens);
                dragTold |= name.equals("drag");
                lines++;
            }
        } catch (Fault f) {
            fault = f.what;
            return -10 - f.place;
        }
        fault = 0;
        now = told;
        seen = new ArrayList<>();
        images[0] = null;
        images[1] = null;
        return lines;
    }

    private static void line(Model told, String name, boolean dragTold, Tokens tokens) throws Fault {
        switch (name) {
            case "drag":
                if (dragTold) {
                    throw new Fault(4, tokens.place);
                }
                told.drag = tokens.number(0, 3);
                break;
            case "on":
            case "back":
                if (told.knocks.size() == 12) {
                    throw new Fault(5, tokens.place);
                }
                int b = tokens.number(0, 3);
                told.knocks.add(new Model.Knock(b, tokens.number(0, 9) * (name.equals("on") ? 1 : -1)));
                break;
            default:
                if (told.beads.size() == 4) {
                    throw new Fault(5, tokens.place);
                }
                int rest = tokens.number(0, 60);
                int stiff = tokens.number(0, 9);
                int kind = List.of("plain", "rope", "block", "slack").indexOf(name);
                told.beads.add(new Model.Bead(kind, rest, stiff, tokens.number(1, 9), told.last() + rest, 0));
                break;
        }
        tokens.semicolon();
    }

    // ---- what is changed

    private long changed(String call, int[] a) {
        int beads = now.beads.size();
        int knocks = now.knocks.size();
        switch (call) {
            case "alter":
                int[][] bounds = {{0, 3}, {0, 60}, {0, 9}, {1, 9}, {0, 300}};
                if (a[2] < bounds[a[1]][0] || a[2] > bounds[a[1]][1]) {
                    return BAD;
                }
                long was = ask("bead", a[0], a[1]);
                now = now.altered(a[0], a[1], a[2]);
                return was;
            case "drag":
                int drag = now.drag;
                now.drag = a[0];
                return drag;
            case "bind":
                if (beads == 4) {
                    return FULL;
                }
                now.beads.add(new Model.Bead(a[0], a[1], a[2], a[3], Math.min(300, now.last() + a[1]), 0));
                return beads + 1;
            case "cut":
                now.beads.subList(a[0], beads).clear();
                return beads;
            case "hit":
                now.knock(new Model.Knock(a[0], a[1] - 9));
                return 100 + now.beads.get(a[0]).speed();
            case "add":
                if (knocks == 12) {
                    return FULL;
                }
                now.knocks.add(new Model.Knock(a[0], a[1] - 9));
                return knocks + 1;
            case "drop":
                now.knocks.subList(a[0], knocks).clear();
                return knocks;
            default:
                long moving = now.beads.stream().filter(bead -> bead.speed() != 0).count();
                now.beads.replaceAll(bead -> bead.with(5, 0));
                return moving;
        }
    }

    // ---- ticks

    private long run(String call, int[] a) {
        Model then = now.copy();
        switch (call) {
            case "ticks":
                if (now.tick + a[0] >= 10000) {
                    return FULL;
                }
                now = then.ticks(a[0]);
                return now.gone;
            case "runs":
                then.ticks(a[0]);
                return new int[] {then.gone, now.swing(a[0]), then.last(), then.stops}[a[1]];
            case "ahead":
                Model.Bead bead = then.ticks(a[1]).beads.get(a[0]);
                return a[2] == 0 ? bead.at() : 100 + bead.speed();
            case "when":
                int from = now.beads.get(a[0]).at();
                for (int t = 0; t <= 200; t++) {
                    int at = then.beads.get(a[0]).at();
                    // It is between where it started and where it is.
                    if (Math.min(from, at) <= a[1] && a[1] <= Math.max(from, at)) {
                        return t;
                    }
                    then.tick();
                }
                return NONE;
            default:
                for (int t = 0; t <= 200; t++) {
                    List<Model.Bead> before = then.beads;
                    if (then.tick(null).beads.equals(before)) {
                        return t;
                    }
                }
                return NONE;
        }
    }

    // ---- what is best

    private long best(String call, int[] a) {
        switch (call) {
            case "kind":
                return steadiest(a, 0, 3, v -> now.altered(a[0], 0, v));
            case "rest":
                return steadiest(a, 0, 60, v -> now.altered(a[0], 1, v));
            case "stiff":
                return steadiest(a, 0, 9, v -> now.altered(a[0], 2, v));
            case "mass":
                return steadiest(a, 1, 9, v -> now.altered(a[0], 3, v));
            case "swap":
                return lesser(a, 100 * now.knocks.size(), v -> {
                    if (v % 100 <= v / 100 || v % 100 >= now.knocks.size()) {
                        return null;
                    }
                    Model other = now.copy();
                    Collections.swap(other.knocks, v / 100, v % 100);
                    return other;
                });
            default:
                return lesser(a, now.knocks.size(), v -> {
                    Model other = now.copy();
                    other.knocks.set(v, null);
                    return other;
                });
        }
    }

    private static long steadiest(int[] a, int least, int most, IntFunction<Model> with) {
        int best = least;
        for (int v = least; v <= most; v++) {
            best = with.apply(v).swing(a[1]) < with.apply(best).swing(a[1]) ? v : best;
        }
        return a[2] == 0 ? best : with.apply(best).swing(a[1]);
    }

    /** Of the changes 0 on below end (null: there is no such one) the first by which the swing is least and less. */
    private long lesser(int[] a, int end, IntFunction<Model> with) {
        int best = NONE;
        int swing = now.swing(a[0]);
        for (int v = 0; v < end; v++) {
            Model other = with.apply(v);
            if (other != null && other.swing(a[0]) < swing) {
                best = v;
                swing = other.swing(a[0]);
            }
        }
        return best == NONE || a[1] == 0 ? best : swing;
    }

    // ---- knocks that miss

    private long odds(String call, int[] a) {
        boolean isLuck = call.equals("luck");
        if (isLuck && now.beads.isEmpty()) {
            return STATE;
        }
        int n = a[isLuck ? 2 : 1];
        Map<Integer, Long> weights = new HashMap<>();
        weigh(now, a[0], n, 1, weights);
        long above = 0;
        long below = 0;
        for (Map.Entry<Integer, Long> place : weights.entrySet()) {
            int worth = isLuck ? place.getKey() >= a[1] ? 1 : 0 : Math.abs(place.getKey() - now.last());
            above += worth * place.getValue();
            below += place.getValue();
        }
        // All that divides ten to a power is twos and fives.
        for (int p : new int[] {2, 5}) {
            while (above % p == 0 && below % p == 0) {
                above /= p;
                below /= p;
            }
        }
        return a[a.length - 1] == 0 ? above : below;
    }

    /** How many of ten to the n ways lead the last bead to each place. */
    private static void weigh(Model m, int v, int n, long weight, Map<Integer, Long> weights) {
        if (n == 0) {
            weights.merge(m.last(), weight, Long::sum);
            return;
        }
        weigh(m.copy().tick(null), v, n - 1, weight * v, weights);
        weigh(m.copy().tick(), v, n - 1, weight * (10 - v), weights);
    }

    // ---- where it was

    private boolean isAsSeen(Model m) {
        for (Sight sight : seen) {
            Model then = m.copy().ticks(sight.n());
            if (sight.b() >= then.beads.size() || then.beads.get(sight.b()).at() != sight.v()) {
                return false;
            }
        }
        return true;
    }

    private List<Integer> asSeen(int b, int what, int most) {
        List<Integer> all = new ArrayList<>();
        for (int v = 0; v <= most; v++) {
            if (isAsSeen(now.altered(b, what, v))) {
                all.add(v);
            }
        }
        return all;
    }

    private static long bits(List<Integer> all) {
        return all.stream().mapToLong(v -> 1L << v).sum();
    }

    private long sights(String call, int[] a) {
        int had = seen.size();
        switch (call) {
            case "see":
                if (had == 6) {
                    return FULL;
                }
                seen.add(new Sight(a[0], a[1], a[2]));
                return had + 1;
            case "forget":
                seen.subList(a[0], had).clear();
                return had;
            case "kinds":
                return bits(asSeen(a[0], 0, 3));
            case "stiffs":
                return bits(asSeen(a[0], 2, 9));
            default:
                return look(a[0], a[1]);
        }
    }

    private long look(int b, int what) {
        List<Integer> left = asSeen(b, 2, 9);
        int first = NONE;
        int fewest = left.size();
        for (int t = 0; t <= 40; t++) {
            Map<Integer, Integer> places = new HashMap<>();
            for (int s : left) {
                places.merge(now.altered(b, 2, s).ticks(t).beads.get(b).at(), 1, Integer::sum);
            }
            int worst = left.isEmpty() ? 0 : Collections.max(places.values());
            if (worst < fewest) {
                fewest = worst;
                first = t;
            }
        }
        return first == NONE || what == 0 ? first : fewest;
    }

    // ---- by a seed

    private long drift(int seed, int n, int what) {
        if (now.beads.isEmpty()) {
            return STATE;
        }
        Model then = now.copy();
        long s = seed;
        int greatest = 0;
        for (int i = 0; i < n; i++) {
            s = s * 1103515245 + 12345;
            int got = (int) Math.floorMod(Math.floorDiv(s, 65536L), 32768L);
            then.tick(new Model.Knock(got % now.beads.size(), got / 8 % 19 - 9));
            greatest = Math.max(greatest, Math.abs(then.last() - now.last()));
        }
        return what == 0 ? greatest : then.last();
    }

    // ---- images, sheets

    private long kept(String call, int[] a) {
        switch (call) {
            case "keep":
                int was = images[a[0]] == null ? 0 : 1;
                images[a[0]] = now.copy();
                return was;
            case "back":
                if (images[a[0]] == null) {
                    return STATE;
                }
                now = images[a[0]].copy();
                return now.tick;
            case "sheet":
                try {
                    sheets[a[0]] = a[1] == 0 ? new byte[a[2]] : a[1] == 1 ? new short[a[2]] : new int[a[2]];
                    return 1;
                } catch (NegativeArraySizeException e) {
                    return -14;
                }
            case "lay":
                return lay(sheets[a[0]], a[1], a[2]);
            case "read":
                return read(a[0], a[1], a[2], a[3]);
            case "torn":
                return torn;
            default:
                return count(a[0]);
        }
    }

    private static long lay(Object sheet, int i, int v) {
        try {
            if (sheet instanceof byte[] row) {
                row[i] = (byte) v;
            } else if (sheet instanceof short[] row) {
                row[i] = (short) v;
            } else {
                ((int[]) sheet)[i] = v;
            }
            return 1;
        } catch (NullPointerException e) {
            return -11;
        } catch (ArrayIndexOutOfBoundsException e) {
            return -12;
        }
    }

    private static int cell(Object sheet, int lane, int i) {
        return switch (lane) {
            case 0 -> ((byte[]) sheet)[i];
            case 1 -> ((short[]) sheet)[i];
            default -> ((int[]) sheet)[i];
        };
    }

    private long read(int k, int lane, int f, int n) {
        List<Model.Knock> had = new ArrayList<>(now.knocks);
        int came = 0;
        int found = 0;
        try {
            while (came < n) {
                int b = cell(sheets[k], lane, f + 2 * came);
                int v = cell(sheets[k], lane, f + 2 * came + 1);
                if (ask("add", b, v) < 0) {
                    now.knocks = had;
                    return -20 - came;
                }
                came++;
            }
        } catch (NullPointerException e) {
            found = 1;
        } catch (ArrayIndexOutOfBoundsException e) {
            found = 2;
        } catch (ClassCastException e) {
            found = 3;
        }
        torn = found;
        return came;
    }

    private long count(int what) {
        switch (what) {
            case 0:
                return seen.size();
            case 1:
                return (images[0] == null ? 0 : 1) + (images[1] == null ? 0 : 1);
            case 2:
                return tape.length();
            case 3:
                return sheets[0] == null ? NONE : java.lang.reflect.Array.getLength(sheets[0]);
            case 4:
                return now.beads.stream().mapToInt(Model.Bead::stiff).sum();
            default:
                return now.beads.stream().mapToInt(Model.Bead::mass).sum();
        }
    }
}
