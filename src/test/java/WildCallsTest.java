import java.util.Random;

/** Any call with any numbers in any state: nothing is thrown, and what is refused changes nothing. */
public final class WildCallsTest {
    private static final Check check = new Check();
    private static final Random random = new Random(512);
    private static final int[] EDGES = {Integer.MIN_VALUE, Integer.MIN_VALUE + 1, -65536, -301, -41, -21, -10, -2, -1,
        9, 10, 11, 12, 13, 18, 19, 20, 21, 40, 41, 60, 61, 100, 101, 127, 128, 160, 161, 200, 201, 300, 301,
        65536, 1 << 30, Integer.MAX_VALUE - 1, Integer.MAX_VALUE};
    private static final String LETTERS = Make.FOUR + "plain rope;drag 99 on?";

    public static void main(String[] args) {
        for (int i = 0; i < 60; i++) {
            SpringBeads x = new SpringBeads();
            for (int j = 0; j < 512; j++) {
                wildCall(x);
            }
        }
        check.end();
    }

    private static int any() {
        int sort = random.nextInt(10);
        if (sort == 0) {
            return EDGES[random.nextInt(EDGES.length)];
        }
        return sort < 8 ? random.nextInt(5) : random.nextInt(61);
    }

    private static void wildCall(SpringBeads x) {
        int which = random.nextInt(41);
        int[] a = {any(), any(), any(), any()};
        String before = Make.picture(x);
        String call = "call " + which + " of " + a[0] + ", " + a[1] + ", " + a[2] + ", " + a[3];
        try {
            long answer = which < 15 ? changing(x, which, a) : asking(x, which, a);
            boolean leaves = which >= 15 || answer < 0 && which != 2;
            if (leaves) {
                check.holds(call + " left all as it was", before.equals(Make.picture(x)));
            }
        } catch (RuntimeException e) {
            check.holds(call + " threw " + e, false);
        }
    }

    /** Calls that may change what the picture shows. */
    private static long changing(SpringBeads x, int which, int[] a) {
        switch (which) {
            case 0:
                return x.feed(random.nextInt(9) == 0 ? a[0] : LETTERS.charAt(random.nextInt(LETTERS.length())));
            case 1:
                return x.end(a[0]);
            case 2:
                if (random.nextBoolean()) {
                    Make.feed(x, Make.FOUR.substring(0, random.nextInt(Make.FOUR.length())));
                }
                return x.text();
            case 3:
                return x.alter(a[0], a[1], a[2]);
            case 4:
                return x.drag(a[0]);
            case 5:
                return x.bind(a[0], a[1], a[2], a[3]);
            case 6:
                return random.nextInt(4) == 0 ? x.cut(a[0]) : x.hit(a[0], a[1]);
            case 7:
                return x.add(a[0], a[1]);
            case 8:
                return x.drop(a[0]);
            case 9:
                return random.nextBoolean() ? x.calm() : x.ticks(a[0]);
            case 10:
                return x.see(a[0], a[1], a[2]);
            case 11:
                return x.forget(a[0]);
            case 12:
                return x.keep(a[0]);
            case 13:
                return x.back(a[0]);
            default:
                return random.nextBoolean() ? x.sheet(a[0], a[1], a[2]) : x.read(a[0], a[1], a[2], a[3]);
        }
    }

    private static long asking(SpringBeads x, int which, int[] a) {
        switch (which) {
            case 15:
                return x.fault();
            case 16:
                return x.rule(a[0]);
            case 17:
                return x.bead(a[0], a[1]);
            case 18:
                return x.knock(a[0], a[1]);
            case 19:
                return x.runs(a[0], a[1]);
            case 20:
                return x.ahead(a[0], a[1], a[2]);
            case 21:
                return x.when(a[0], a[1]);
            case 22:
                return x.rests();
            case 23:
                return x.stiff(a[0], a[1], a[2]);
            case 24:
                return x.rest(a[0], a[1], a[2]);
            case 25:
                return x.kind(a[0], a[1], a[2]);
            case 26:
                return x.mass(a[0], a[1], a[2]);
            case 27:
                return x.swap(a[0], a[1]);
            case 28:
                return x.miss(a[0], a[1]);
            case 29:
                return x.luck(a[0], a[1], a[2], a[3]);
            case 30:
                return x.mean(a[0], a[1], a[2]);
            case 31:
                return x.kinds(a[0]);
            case 32:
                return x.stiffs(a[0]);
            case 33:
                return x.ask(a[0], a[1]);
            case 34:
                return x.drift(a[0], a[1], a[2]);
            case 35:
                return x.lay(a[0], a[1], a[2]);
            case 36:
                return x.torn();
            default:
                return x.count(a[0]);
        }
    }
}
