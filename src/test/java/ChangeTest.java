/** Promises 9 to 16: what is changed. */
public final class ChangeTest {
    private static final Check check = new Check();

    public static void main(String[] args) {
        altering();
        dragging();
        binding();
        cutting();
        hitting();
        adding();
        dropping();
        calming();
        check.end();
    }

    private static void altering() {
        SpringBeads x = Make.told(Make.FOUR);
        int[] least = {0, 0, 0, 1, 0};
        int[] most = {3, 60, 9, 9, 300};
        for (int what = 0; what < 5; what++) {
            int was = x.bead(2, what);
            check.due("alter below, " + what, x.alter(2, what, least[what] - 1), SpringBeads.BAD);
            check.due("alter above, " + what, x.alter(2, what, most[what] + 1), SpringBeads.BAD);
            check.due("refused alter, " + what, x.bead(2, what), was);
            check.due("alter least, " + what, x.alter(2, what, least[what]), was);
            check.due("alter most, " + what, x.alter(2, what, most[what]), least[what]);
            check.due("altered, " + what, x.bead(2, what), most[what]);
        }
        check.due("alter(2, -1, 1)", x.alter(2, -1, 1), SpringBeads.BAD);
        check.due("alter(2, 5, 1)", x.alter(2, 5, 1), SpringBeads.BAD);
        check.due("alter(-1, 0, 1)", x.alter(-1, 0, 1), SpringBeads.BAD);
        check.due("alter(4, 0, 1)", x.alter(4, 0, 1), SpringBeads.BAD);
        x.hit(0, 12);
        x.alter(0, 4, 7);
        check.due("speed stays", x.bead(0, 5), 103);
        check.due("the one behind stays", x.bead(1, 4), 50);
    }

    private static void dragging() {
        SpringBeads x = new SpringBeads();
        check.due("drag(3)", x.drag(3), 0);
        check.due("drag(4)", x.drag(4), SpringBeads.BAD);
        check.due("drag(-1)", x.drag(-1), SpringBeads.BAD);
        check.due("drag(0)", x.drag(0), 3);
        check.due("rule(3)", x.rule(3), 0);
    }

    private static void binding() {
        SpringBeads x = new SpringBeads();
        check.due("bind(4, ..)", x.bind(4, 1, 1, 1), SpringBeads.BAD);
        check.due("bind(-1, ..)", x.bind(-1, 1, 1, 1), SpringBeads.BAD);
        check.due("bind(0, 61, ..)", x.bind(0, 61, 1, 1), SpringBeads.BAD);
        check.due("bind(0, -1, ..)", x.bind(0, -1, 1, 1), SpringBeads.BAD);
        check.due("bind(0, 1, 10, 1)", x.bind(0, 1, 10, 1), SpringBeads.BAD);
        check.due("bind(0, 1, -1, 1)", x.bind(0, 1, -1, 1), SpringBeads.BAD);
        check.due("bind(0, 1, 1, 10)", x.bind(0, 1, 1, 10), SpringBeads.BAD);
        check.due("bind(0, 1, 1, 0)", x.bind(0, 1, 1, 0), SpringBeads.BAD);
        check.due("rule(0)", x.rule(0), 0);
        check.due("first bind", x.bind(3, 60, 9, 9), 1);
        check.due("its place", x.bead(0, 4), 60);
        check.due("its kind", x.bead(0, 0), 3);
        check.due("its rest", x.bead(0, 1), 60);
        check.due("its stiff", x.bead(0, 2), 9);
        check.due("its mass", x.bead(0, 3), 9);
        x.alter(0, 4, 240);
        check.due("second bind", x.bind(0, 60, 0, 1), 2);
        check.due("its place just at the end", x.bead(1, 4), 300);
        x.alter(1, 4, 241);
        x.hit(1, 18);
        check.due("third bind", x.bind(0, 60, 0, 1), 3);
        check.due("its place is the end at most", x.bead(2, 4), 300);
        check.due("fourth bind", x.bind(0, 0, 0, 1), 4);
        check.due("fifth bind", x.bind(0, 0, 0, 1), SpringBeads.FULL);
        check.due("fifth bind, bad", x.bind(4, 0, 0, 1), SpringBeads.BAD);
        x.hit(3, 0);
        x.cut(3);
        x.bind(1, 5, 5, 5);
        check.due("speed of a new one", x.bead(3, 5), 100);
    }

    private static void cutting() {
        SpringBeads x = Make.told(Make.FOUR);
        check.due("cut(5)", x.cut(5), SpringBeads.BAD);
        check.due("cut(-1)", x.cut(-1), SpringBeads.BAD);
        check.due("cut(4)", x.cut(4), 4);
        check.due("cut(2)", x.cut(2), 4);
        check.due("rule(0)", x.rule(0), 2);
        check.due("knocks stay", x.rule(1), 4);
        check.due("cut(3)", x.cut(3), SpringBeads.BAD);
        check.due("cut(0)", x.cut(0), 2);
        check.due("cut(0) of none", x.cut(0), 0);
        x.bind(0, 9, 0, 1);
        check.due("behind the wall again", x.bead(0, 4), 9);
    }

    private static void hitting() {
        SpringBeads x = Make.told(Make.FOUR);
        check.due("hit(0, 19)", x.hit(0, 19), SpringBeads.BAD);
        check.due("hit(0, -1)", x.hit(0, -1), SpringBeads.BAD);
        check.due("hit(4, 9)", x.hit(4, 9), SpringBeads.BAD);
        check.due("hit(-1, 9)", x.hit(-1, 9), SpringBeads.BAD);
        check.due("hit(0, 9)", x.hit(0, 9), 100);
        for (int i = 1; i <= 6; i++) {
            check.due("hit on " + i, x.hit(0, 18), 100 + Math.min(40, 9 * i));
        }
        for (int i = 1; i <= 10; i++) {
            check.due("hit back " + i, x.hit(0, 0), 100 + Math.max(-40, 40 - 9 * i));
        }
        check.due("its place stays", x.bead(0, 4), 30);
        check.due("tick stays", x.rule(2), 0);
        check.due("others stay", x.rule(4), 14);
    }

    private static void adding() {
        SpringBeads x = new SpringBeads();
        check.due("add(4, 0)", x.add(4, 0), SpringBeads.BAD);
        check.due("add(-1, 0)", x.add(-1, 0), SpringBeads.BAD);
        check.due("add(0, 19)", x.add(0, 19), SpringBeads.BAD);
        check.due("add(0, -1)", x.add(0, -1), SpringBeads.BAD);
        for (int i = 0; i < 12; i++) {
            check.due("add " + i, x.add(i % 4, 18 - i), i + 1);
        }
        check.due("13th add", x.add(0, 0), SpringBeads.FULL);
        check.due("13th add, bad", x.add(0, 19), SpringBeads.BAD);
        for (int i = 0; i < 12; i++) {
            check.due("its bead " + i, x.knock(i, 0), i % 4);
            check.due("its size " + i, x.knock(i, 1), 18 - i);
        }
    }

    private static void dropping() {
        SpringBeads x = Make.told(Make.FOUR);
        check.due("drop(5)", x.drop(5), SpringBeads.BAD);
        check.due("drop(-1)", x.drop(-1), SpringBeads.BAD);
        check.due("drop(4)", x.drop(4), 4);
        check.due("drop(1)", x.drop(1), 4);
        check.due("the first stays", x.knock(0, 1), 18);
        check.due("knock(1, 0)", x.knock(1, 0), SpringBeads.BAD);
        check.due("drop(0)", x.drop(0), 1);
        check.due("drop(0) of none", x.drop(0), 0);
    }

    private static void calming() {
        SpringBeads x = Make.told(Make.FOUR);
        check.due("calm() of still ones", x.calm(), 0);
        x.hit(0, 0);
        x.hit(2, 18);
        x.hit(3, 10);
        check.due("calm()", x.calm(), 3);
        check.due("rule(4)", x.rule(4), 15);
        check.due("calm() again", x.calm(), 0);
        x.hit(3, 10);
        x.cut(3);
        check.due("calm() of those that are there", x.calm(), 0);
        x.cut(0);
        check.due("calm() of none", x.calm(), 0);
    }
}
