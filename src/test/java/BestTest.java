/** Promises 22 to 27: what is best. AgreementTest has them on many more states. */
public final class BestTest {
    private static final Check check = new Check();

    public static void main(String[] args) {
        wrongInputs();
        withoutTicks();
        stiffest();
        heaviest();
        kindOfAll();
        restOfAll();
        swapping();
        missing();
        nothingChanges();
        check.end();
    }

    private static int call(SpringBeads x, int which, int b, int n, int what) {
        switch (which) {
            case 0:
                return x.stiff(b, n, what);
            case 1:
                return x.rest(b, n, what);
            case 2:
                return x.kind(b, n, what);
            default:
                return x.mass(b, n, what);
        }
    }

    private static void wrongInputs() {
        SpringBeads x = Make.told(Make.FOUR);
        for (int which = 0; which < 4; which++) {
            int[][] wrong = {{4, 1, 0}, {-1, 1, 0}, {0, 101, 0}, {0, -1, 0}, {0, 1, 2}, {0, 1, -1}};
            for (int[] w : wrong) {
                check.due("best " + which + " of " + w[0] + ", " + w[1] + ", " + w[2],
                        call(x, which, w[0], w[1], w[2]), SpringBeads.BAD);
            }
            check.due("best " + which + " of none", call(new SpringBeads(), which, 0, 1, 0), SpringBeads.BAD);
        }
        check.due("swap(101, 0)", x.swap(101, 0), SpringBeads.BAD);
        check.due("swap(-1, 0)", x.swap(-1, 0), SpringBeads.BAD);
        check.due("swap(1, 2)", x.swap(1, 2), SpringBeads.BAD);
        check.due("swap(1, -1)", x.swap(1, -1), SpringBeads.BAD);
        check.due("miss(101, 0)", x.miss(101, 0), SpringBeads.BAD);
        check.due("miss(-1, 0)", x.miss(-1, 0), SpringBeads.BAD);
        check.due("miss(1, 2)", x.miss(1, 2), SpringBeads.BAD);
        check.due("miss(1, -1)", x.miss(1, -1), SpringBeads.BAD);
    }

    private static void withoutTicks() {
        SpringBeads x = Make.told(Make.FOUR);
        int[] least = {0, 0, 0, 1};
        for (int which = 0; which < 4; which++) {
            check.due("least of equals " + which, call(x, which, 2, 0, 0), least[which]);
            check.due("no swing " + which, call(x, which, 2, 0, 1), 0);
        }
        check.due("swap(0, 0)", x.swap(0, 0), SpringBeads.NONE);
        check.due("miss(0, 1)", x.miss(0, 1), SpringBeads.NONE);
    }

    /** Speed 9 from rest: the stiffer, the sooner it turns; two ticks go 9 and 9 less what 9 pulls. */
    private static void stiffest() {
        SpringBeads x = Make.one(0, 30, 5, 1);
        Make.speed(x, 0, 9);
        // Behind one tick it is 9 off by all; then 9 - 9 * stiff by 10: from 8 on 9 - 7, 9 - 8 for 9.
        check.due("stiff(0, 1, 0)", x.stiff(0, 1, 0), 0);
        check.due("stiff(0, 1, 1)", x.stiff(0, 1, 1), 9);
        check.due("stiff(0, 2, 0)", x.stiff(0, 2, 0), 9);
        check.due("stiff(0, 2, 1)", x.stiff(0, 2, 1), 10);
    }

    /** At stiffness 9 pulls are 81: by 10 .. 90 speeds are 1, 5, 7, 7, 8 ..: the least mass is best. */
    private static void heaviest() {
        SpringBeads x = Make.one(0, 30, 9, 5);
        Make.speed(x, 0, 9);
        check.due("mass(0, 2, 0)", x.mass(0, 2, 0), 1);
        check.due("mass(0, 2, 1)", x.mass(0, 2, 1), 10);
        Make.speed(x, 0, 0);
        x.alter(0, 4, 50);
        // 180 by 10 m: 18, 9, 6, 4, 3, 3, 2, 2, 2.
        check.due("mass of one that pulls", x.mass(0, 1, 0), 7);
        check.due("how much", x.mass(0, 1, 1), 2);
    }

    private static void kindOfAll() {
        SpringBeads x = Make.one(0, 30, 5, 1);
        x.alter(0, 4, 50);
        // A plain one and a rope pull by 100, a block does not, a slack one pulls.
        check.due("kind, stretched", x.kind(0, 1, 0), 2);
        check.due("kind, stretched, how much", x.kind(0, 1, 1), 0);
        x.alter(0, 4, 10);
        check.due("kind, pressed", x.kind(0, 1, 0), 1);
        x.alter(0, 4, 34);
        check.due("kind, near", x.kind(0, 1, 0), 2);
        x.alter(0, 4, 26);
        check.due("kind, near below", x.kind(0, 1, 0), 1);
        SpringBeads slack = new SpringBeads();
        slack.bind(0, 30, 0, 1);
        slack.bind(0, 20, 9, 1);
        Make.speed(slack, 1, 3);
        slack.drag(1);
        check.due("first of equals", slack.kind(0, 9, 0), 0);
    }

    private static void restOfAll() {
        SpringBeads x = Make.one(0, 10, 1, 1);
        x.alter(0, 4, 50);
        // Places 41 to 59 off by less than ten: the least rest that doesn't pull.
        check.due("rest(0, 1, 0)", x.rest(0, 1, 0), 41);
        check.due("rest(0, 1, 1)", x.rest(0, 1, 1), 0);
        x.alter(0, 4, 300);
        check.due("the greatest rest", x.rest(0, 1, 0) >= 51 ? 1 : 0, 1);
        check.due("the least of those with 24", x.rest(0, 1, 0), 51);
        check.due("24 in a tick", x.rest(0, 1, 1), 24);
    }

    /** Without springs: speeds add up. */
    private static void swapping() {
        SpringBeads x = Make.told("plain 60 0 1;on 0 5;on 0 3;back 0 4;");
        // 5, 13, 17 off. By 0, 1: 3, 11, 15. By 0, 2: -4, -5, -1. By 1, 2: 5, 6, 10.
        check.due("runs(3, 1)", x.runs(3, 1), 17);
        check.due("swap(3, 0)", x.swap(3, 0), 2);
        check.due("swap(3, 1)", x.swap(3, 1), 5);
        check.due("swap(2, 0)", x.swap(2, 0), 2);
        check.due("swap(1, 0)", x.swap(1, 0), 1);
        check.due("swap(1, 1)", x.swap(1, 1), 3);
        x.ticks(1);
        x.calm();
        // Tick 1 is next: 3, 2: swapping 1, 2 gives -4, -5; 0, 1 gives 5, 6; 0, 2 gives 3, 11.
        check.due("swap(2, 0) from tick 1", x.swap(2, 0), SpringBeads.NONE);
        SpringBeads equal = Make.told("plain 60 0 1;on 0 5;on 1 1;on 2 1;");
        check.due("of several the least", equal.swap(1, 0), 1);
        check.due("and how much", equal.swap(1, 1), 0);
        SpringBeads later = Make.told("plain 60 0 1;on 1 1;on 0 5;on 2 1;");
        check.due("swap of the last two", later.swap(2, 0), 102);
        check.due("swap by none", Make.told("plain 60 0 1;on 0 5;on 0 5;").swap(9, 0), SpringBeads.NONE);
        check.due("swap of one", Make.told("plain 60 0 1;on 0 5;").swap(9, 1), SpringBeads.NONE);
        check.due("swap without beads", Make.told("on 0 5;on 0 1;").swap(9, 0), SpringBeads.NONE);
        SpringBeads twelve = Make.told("plain 60 0 1;" + Make.repeat("on 1 0;", 10) + "on 0 9;on 1 9;");
        check.due("swap of the last of twelve", twelve.swap(11, 0), 1011);
    }

    private static void missing() {
        SpringBeads x = Make.told("plain 60 0 1;on 0 5;on 0 3;back 0 4;");
        // 5, 13, 17 off. Without 0: 0, 3, 2. Without 1: 5, 10, 11. Without 2: 5, 13, 21.
        check.due("miss(3, 0)", x.miss(3, 0), 0);
        check.due("miss(3, 1)", x.miss(3, 1), 3);
        // The plan keeps its length: tick 3 is by knock 0 again.
        check.due("miss(4, 1)", x.miss(4, 1), 3);
        x.ticks(1);
        x.calm();
        // Tick 1 is next: 3, 2 off. Without 1: 0, -4. Without 2: 3, 6.
        check.due("miss from tick 1", x.miss(2, 0), SpringBeads.NONE);
        check.due("miss(1, 0) from tick 1", x.miss(1, 0), 1);
        check.due("miss(1, 1) from tick 1", x.miss(1, 1), 0);
        SpringBeads equal = Make.told("plain 60 0 1;on 1 5;on 0 5;back 0 5;on 0 5;");
        // 0, 5, 5, 10 off. Without 1: 0, 0, 5, 5. Without 3: 0, 5, 5, 5.
        check.due("of several the first", equal.miss(4, 0), 1);
        check.due("of several, how much", equal.miss(4, 1), 5);
        check.due("none but a bead that is not there", Make.told("plain 60 0 1;on 1 1;").miss(9, 0), SpringBeads.NONE);
        check.due("miss without knocks", Make.told("plain 60 0 1;").miss(9, 0), SpringBeads.NONE);
        check.due("miss without beads", Make.told("on 0 1;").miss(9, 1), SpringBeads.NONE);
    }

    private static void nothingChanges() {
        SpringBeads x = Make.told(Make.FOUR);
        x.ticks(3);
        String was = Make.picture(x);
        for (int what = 0; what < 2; what++) {
            for (int which = 0; which < 4; which++) {
                call(x, which, 1, 50, what);
            }
            x.swap(50, what);
            x.miss(50, what);
        }
        check.holds("trials change nothing", was.equals(Make.picture(x)));
    }
}
