/** Promises 17 to 21: ticks. */
public final class TicksTest {
    private static final Check check = new Check();

    public static void main(String[] args) {
        ticking();
        planOfKnocks();
        towardsZero();
        allByWhereTheyAreThen();
        behindACut();
        dragThenBounds();
        knockBounds();
        ends();
        tickBound();
        running();
        lookingAhead();
        comingToAPlace();
        resting();
        byTicksChangesNothing();
        check.end();
    }

    /** Rest 30, stiff 5, mass 2, speed 9: it goes to 39, 46, 49, 48, 43. */
    private static SpringBeads swinging() {
        SpringBeads x = Make.one(0, 30, 5, 2);
        Make.speed(x, 0, 9);
        return x;
    }

    private static void ticking() {
        SpringBeads x = swinging();
        check.due("ticks(0)", x.ticks(0), 0);
        check.due("ticks(-1)", x.ticks(-1), SpringBeads.BAD);
        check.due("ticks(101)", x.ticks(101), SpringBeads.BAD);
        check.due("rule(2)", x.rule(2), 0);
        int[] places = {39, 46, 49, 48, 43};
        int[] speeds = {9, 7, 3, -1, -5};
        for (int i = 0; i < 5; i++) {
            check.due("ticks(1) " + i, x.ticks(1), Math.abs(speeds[i]));
            check.due("place " + i, x.bead(0, 4), places[i]);
            check.due("speed " + i, x.bead(0, 5), 100 + speeds[i]);
            check.due("tick " + i, x.rule(2), i + 1);
        }
        check.due("ticks(5)", swinging().ticks(5), 25);
        SpringBeads two = new SpringBeads();
        two.bind(0, 50, 0, 1);
        two.bind(0, 50, 0, 1);
        Make.speed(two, 0, -3);
        Make.speed(two, 1, 4);
        check.due("ticks(10) of two", two.ticks(10), 70);
        check.due("ticks(3) of none", new SpringBeads().ticks(3), 0);
        check.due("ticks(100)", swinging().ticks(100) > 0 ? 1 : 0, 1);
    }

    /** With stiffness 0 knocks alone are seen in speeds. */
    private static void planOfKnocks() {
        SpringBeads x = Make.told("plain 50 0 1;plain 60 0 1;on 0 1;back 1 2;on 3 9;");
        int[] first = {1, 1, 1, 2, 2, 2, 3};
        int[] second = {0, -2, -2, -2, -4, -4, -4};
        for (int i = 0; i < 7; i++) {
            x.ticks(1);
            check.due("first behind " + (i + 1), x.bead(0, 5), 100 + first[i]);
            check.due("second behind " + (i + 1), x.bead(1, 5), 100 + second[i]);
        }
        x.drop(2);
        x.ticks(1);
        check.due("the knock is by tick 7 of two", x.bead(1, 5), 94);
        check.due("ahead by tick 8 of two", x.ahead(0, 1, 1), 104);
    }

    private static void towardsZero() {
        SpringBeads x = Make.one(0, 50, 1, 1);
        x.alter(0, 4, 69);
        x.ticks(1);
        check.due("-19 by 10", x.bead(0, 5), 99);
        x = Make.one(0, 50, 1, 1);
        x.alter(0, 4, 31);
        x.ticks(1);
        check.due("19 by 10", x.bead(0, 5), 101);
        x = Make.one(0, 50, 9, 9);
        x.alter(0, 4, 70);
        x.ticks(1);
        check.due("-180 by 90", x.bead(0, 5), 98);
    }

    /** Pulls of the first and second: 40 and 100, each by where both are ahead of the tick. */
    private static void allByWhereTheyAreThen() {
        SpringBeads x = new SpringBeads();
        x.bind(0, 10, 4, 1);
        x.bind(0, 10, 5, 2);
        x.alter(0, 4, 20);
        x.alter(1, 4, 50);
        check.due("ticks(1)", x.ticks(1), 11);
        check.due("first, (100 - 40) by 10", x.bead(0, 5), 106);
        check.due("second, (0 - 100) by 20", x.bead(1, 5), 95);
        check.due("first place", x.bead(0, 4), 26);
        check.due("second place", x.bead(1, 4), 45);
    }

    /** The third one's pull is gone with it. */
    private static void behindACut() {
        SpringBeads x = new SpringBeads();
        x.bind(0, 10, 0, 1);
        x.bind(0, 10, 0, 1);
        x.bind(0, 10, 9, 9);
        x.alter(2, 4, 130);
        x.ticks(1);
        x.calm();
        x.runs(1, 0);
        x.cut(2);
        check.due("ahead behind a cut", x.ahead(1, 1, 1), 100);
        check.due("ticks behind a cut", x.ticks(1), 0);
        check.due("rests behind a cut", x.rests(), 0);
    }

    private static void dragThenBounds() {
        SpringBeads x = Make.one(0, 0, 9, 1);
        x.alter(0, 4, 300);
        x.drag(3);
        x.ticks(1);
        check.due("drag comes ahead of the bounds", x.bead(0, 5), 60);
        check.due("place", x.bead(0, 4), 260);
        x = Make.one(0, 50, 0, 1);
        x.drag(3);
        Make.speed(x, 0, 7);
        int[] down = {4, 1, 0, 0};
        for (int speed : down) {
            x.ticks(1);
            check.due("slowed", x.bead(0, 5), 100 + speed);
        }
        Make.speed(x, 0, -4);
        int[] up = {-1, 0};
        for (int speed : up) {
            x.ticks(1);
            check.due("slowed, below 0", x.bead(0, 5), 100 + speed);
        }
    }

    /** Speed 40, a knock of 9, a push of -4: the knock is lost ahead of the push. */
    private static void knockBounds() {
        SpringBeads x = Make.told("plain 50 1 1;on 0 9;");
        x.alter(0, 4, 90);
        Make.speed(x, 0, 40);
        x.ticks(1);
        check.due("speed", x.bead(0, 5), 136);
        x = Make.told("plain 60 9 1;back 0 9;");
        x.alter(0, 4, 50);
        Make.speed(x, 0, -40);
        check.due("speed below 0, a push of 9", x.ahead(0, 1, 1), 69);
    }

    private static void ends() {
        SpringBeads x = Make.one(0, 5, 0, 1);
        Make.speed(x, 0, -5);
        check.due("to the end", x.ticks(1), 5);
        check.due("just at it: speed stays", x.bead(0, 5), 95);
        check.due("runs(1, 3)", x.runs(1, 3), 1);
        check.due("runs(9, 3)", x.runs(9, 3), 1);
        check.due("beyond it", x.ticks(1), 0);
        check.due("speed there", x.bead(0, 5), 100);
        check.due("place there", x.bead(0, 4), 0);
        x.alter(0, 4, 297);
        Make.speed(x, 0, 3);
        x.ticks(1);
        check.due("the far end", x.bead(0, 4), 300);
        check.due("just at the far end", x.bead(0, 5), 103);
        x.alter(0, 4, 298);
        check.due("goes 2 alone", x.ticks(1), 2);
        check.due("stays at the far end", x.bead(0, 4), 300);
        check.due("speed at the far end", x.bead(0, 5), 100);
    }

    private static void tickBound() {
        SpringBeads x = new SpringBeads();
        for (int i = 0; i < 99; i++) {
            x.ticks(100);
        }
        check.due("rule(2)", x.rule(2), 9900);
        check.due("ticks(100) to 10000", x.ticks(100), SpringBeads.FULL);
        check.due("ticks(101) is bad first", x.ticks(101), SpringBeads.BAD);
        check.due("rule(2) stays", x.rule(2), 9900);
        check.due("ticks(99) to 9999", x.ticks(99), 0);
        check.due("ticks(1) to 10000", x.ticks(1), SpringBeads.FULL);
        check.due("ticks(0)", x.ticks(0), 0);
        check.due("rule(2) at last", x.rule(2), 9999);
        x.bind(0, 30, 5, 2);
        x.hit(0, 18);
        check.due("by ticks goes on", x.runs(200, 1), 19);
    }

    private static void running() {
        SpringBeads x = swinging();
        int[] gone = {0, 9, 16, 19, 20, 25};
        int[] swing = {0, 9, 16, 19, 19, 19};
        int[] last = {30, 39, 46, 49, 48, 43};
        for (int n = 0; n <= 5; n++) {
            check.due("runs(" + n + ", 0)", x.runs(n, 0), gone[n]);
            check.due("runs(" + n + ", 1)", x.runs(n, 1), swing[n]);
            check.due("runs(" + n + ", 2)", x.runs(n, 2), last[n]);
            check.due("runs(" + n + ", 3)", x.runs(n, 3), 0);
        }
        check.due("runs(-1, 0)", x.runs(-1, 0), SpringBeads.BAD);
        check.due("runs(201, 0)", x.runs(201, 0), SpringBeads.BAD);
        check.due("runs(1, -1)", x.runs(1, -1), SpringBeads.BAD);
        check.due("runs(1, 4)", x.runs(1, 4), SpringBeads.BAD);
        check.due("runs(200, 1)", x.runs(200, 1) >= 19 ? 1 : 0, 1);
        SpringBeads none = new SpringBeads();
        for (int what = 0; what < 4; what++) {
            check.due("runs(200, " + what + ") of none", none.runs(200, what), 0);
        }
        Make.speed(x, 0, -40);
        check.due("swing below", x.runs(1, 1), 30);
        SpringBeads four = Make.told(Make.FOUR);
        check.due("four: runs(200, 0)", four.runs(200, 0), 1108);
        check.due("four: runs(40, 2)", four.runs(40, 2), 116);
        // The first one is knocked to the wall in ticks 0, 2, 4, the second one comes to it in 2, 3, 5.
        SpringBeads pushed = Make.told("plain 5 0 1;plain 5 0 1;back 0 9;back 1 9;");
        check.due("each end of each bead counts", pushed.runs(6, 3), 6);
    }

    private static void lookingAhead() {
        SpringBeads x = swinging();
        check.due("ahead(0, 0, 0)", x.ahead(0, 0, 0), 30);
        check.due("ahead(0, 0, 1)", x.ahead(0, 0, 1), 109);
        check.due("ahead(0, 4, 0)", x.ahead(0, 4, 0), 48);
        check.due("ahead(0, 4, 1)", x.ahead(0, 4, 1), 99);
        check.due("ahead(0, 201, 0)", x.ahead(0, 201, 0), SpringBeads.BAD);
        check.due("ahead(0, -1, 0)", x.ahead(0, -1, 0), SpringBeads.BAD);
        check.due("ahead(1, 0, 0)", x.ahead(1, 0, 0), SpringBeads.BAD);
        check.due("ahead(-1, 0, 0)", x.ahead(-1, 0, 0), SpringBeads.BAD);
        check.due("ahead(0, 0, 2)", x.ahead(0, 0, 2), SpringBeads.BAD);
        check.due("ahead(0, 0, -1)", x.ahead(0, 0, -1), SpringBeads.BAD);
        SpringBeads four = Make.told(Make.FOUR);
        check.due("four: ahead(0, 200, 1)", four.ahead(0, 200, 1), 102);
        check.due("four: ahead(3, 8, 0)", four.ahead(3, 8, 0), 111);
    }

    private static void comingToAPlace() {
        SpringBeads x = swinging();
        check.due("when at it now", x.when(0, 30), 0);
        check.due("when just at it", x.when(0, 39), 1);
        check.due("when beyond it", x.when(0, 40), 2);
        check.due("when at the greatest", x.when(0, 49), 3);
        check.due("when(0, 300)", x.when(0, 300), SpringBeads.NONE);
        check.due("when below", x.when(0, 29) > 5 ? 1 : 0, 1);
        check.due("when(0, 301)", x.when(0, 301), SpringBeads.BAD);
        check.due("when(0, -1)", x.when(0, -1), SpringBeads.BAD);
        check.due("when(1, 0)", x.when(1, 0), SpringBeads.BAD);
        check.due("when(-1, 0)", x.when(-1, 0), SpringBeads.BAD);
        SpringBeads slow = Make.one(0, 0, 0, 1);
        Make.speed(slow, 0, 1);
        check.due("when behind 200", slow.when(0, 200), 200);
        check.due("when behind 201", slow.when(0, 201), SpringBeads.NONE);
        slow.alter(0, 4, 250);
        Make.speed(slow, 0, -1);
        check.due("when behind 200, below", slow.when(0, 50), 200);
        check.due("when behind 201, below", slow.when(0, 49), SpringBeads.NONE);
        Make.speed(slow, 0, -7);
        check.due("when beyond it, below", slow.when(0, 200), 8);
    }

    private static void resting() {
        check.due("rests() of none", new SpringBeads().rests(), 0);
        check.due("rests() at rest", Make.one(0, 30, 5, 2).rests(), 0);
        check.due("rests() without drag", swinging().rests(), SpringBeads.NONE);
        SpringBeads x = Make.one(0, 30, 0, 1);
        x.drag(1);
        Make.speed(x, 0, 5);
        check.due("rests() when slowed", x.rests(), 5);
        x.add(0, 18);
        check.due("rests() without knocks", x.rests(), 5);
        x.alter(0, 4, 297);
        check.due("rests() at the end", x.rests(), 1);
        check.due("a push that the end takes is rest", pushedOut().rests(), 0);
        SpringBeads slow = Make.one(0, 60, 0, 1);
        slow.alter(0, 4, 60);
        Make.speed(slow, 0, 1);
        check.due("rests() behind 200", place(slow, 101).rests(), 200);
        check.due("rests() behind 201", place(slow, 100).rests(), SpringBeads.NONE);
    }

    private static SpringBeads place(SpringBeads x, int place) {
        x.alter(0, 4, place);
        return x;
    }

    /** The second one is pushed against the far end by its spring; the first one has none to push back. */
    private static SpringBeads pushedOut() {
        SpringBeads x = new SpringBeads();
        x.bind(0, 60, 0, 9);
        x.bind(0, 60, 1, 1);
        x.alter(0, 4, 300);
        x.alter(1, 4, 300);
        // 60 by 90 is 0 for the first one, 60 by 10 is 6 for the second.
        return x;
    }

    private static void byTicksChangesNothing() {
        SpringBeads x = Make.told(Make.FOUR);
        x.ticks(3);
        String was = Make.picture(x);
        for (int what = 0; what < 4; what++) {
            x.runs(200, what);
        }
        x.ahead(2, 200, 0);
        x.when(0, 300);
        x.rests();
        check.holds("by ticks nothing changes", was.equals(Make.picture(x)));
    }
}
