/** Promises 30 to 34: where it was. */
public final class SeenTest {
    private static final Check check = new Check();

    public static void main(String[] args) {
        seeing();
        forgetting();
        kinds();
        stiffs();
        fromNowOn();
        beadsThatAreGone();
        asking();
        check.end();
    }

    private static void seeing() {
        SpringBeads x = Make.one(0, 30, 5, 2);
        check.due("see(41, 0, 0)", x.see(41, 0, 0), SpringBeads.BAD);
        check.due("see(-1, 0, 0)", x.see(-1, 0, 0), SpringBeads.BAD);
        check.due("see(0, 1, 0)", x.see(0, 1, 0), SpringBeads.BAD);
        check.due("see(0, -1, 0)", x.see(0, -1, 0), SpringBeads.BAD);
        check.due("see(0, 0, 301)", x.see(0, 0, 301), SpringBeads.BAD);
        check.due("see(0, 0, -1)", x.see(0, 0, -1), SpringBeads.BAD);
        check.due("count(0)", x.count(0), 0);
        check.due("see(40, 0, 300)", x.see(40, 0, 300), 1);
        check.due("see(0, 0, 0)", x.see(0, 0, 0), 2);
        for (int i = 3; i <= 6; i++) {
            check.due("see " + i, x.see(0, 0, 0), i);
        }
        check.due("7th see", x.see(0, 0, 0), SpringBeads.FULL);
        check.due("7th see, bad", x.see(41, 0, 0), SpringBeads.BAD);
        check.due("count(0) then", x.count(0), 6);
        check.due("kinds(0) of six that can't be", x.kinds(0), 0);
        x.forget(0);
        for (int i = 0; i < 6; i++) {
            x.see(8 * i, 0, 30);
        }
        check.due("kinds(0) of six that are so", x.kinds(0), 15);
        check.due("stiffs(0) of six that are so", x.stiffs(0), 1023);
    }

    private static void forgetting() {
        SpringBeads x = Make.one(0, 30, 5, 2);
        x.see(0, 0, 30);
        x.see(0, 0, 31);
        check.due("forget(3)", x.forget(3), SpringBeads.BAD);
        check.due("forget(-1)", x.forget(-1), SpringBeads.BAD);
        check.due("kinds(0) of both", x.kinds(0), 0);
        check.due("forget(1)", x.forget(1), 2);
        check.due("kinds(0) of the first", x.kinds(0), 15);
        check.due("forget(0)", x.forget(0), 1);
        check.due("forget(0) of none", x.forget(0), 0);
    }

    private static void kinds() {
        SpringBeads x = Make.one(3, 30, 5, 1);
        check.due("kinds(0) of nothing seen", x.kinds(0), 15);
        check.due("kinds(1)", x.kinds(1), SpringBeads.BAD);
        check.due("kinds(-1)", x.kinds(-1), SpringBeads.BAD);
        x.alter(0, 4, 50);
        // A pull of 100 by a plain one, a rope, a slack one: 40 behind a tick.
        x.see(1, 0, 40);
        check.due("those that pull", x.kinds(0), 11);
        x.forget(0);
        x.see(1, 0, 50);
        check.due("those that don't", x.kinds(0), 4);
        x.forget(0);
        x.alter(0, 4, 34);
        x.see(1, 0, 34);
        check.due("those that don't near rest", x.kinds(0), 12);
        x.forget(0);
        x.alter(0, 4, 10);
        x.see(1, 0, 20);
        check.due("those that push", x.kinds(0), 13);
        check.due("the kind stays", x.bead(0, 0), 3);
        x.see(2, 0, 299);
        check.due("both must be so", x.kinds(0), 0);
    }

    private static void stiffs() {
        SpringBeads x = Make.one(0, 30, 5, 1);
        check.due("stiffs(0) of nothing seen", x.stiffs(0), 1023);
        check.due("stiffs(1)", x.stiffs(1), SpringBeads.BAD);
        check.due("stiffs(-1)", x.stiffs(-1), SpringBeads.BAD);
        x.alter(0, 4, 50);
        x.see(1, 0, 40);
        check.due("stiff 5 alone", x.stiffs(0), 32);
        x.forget(0);
        x.alter(0, 4, 35);
        // 5 * stiff by 10: 0, 0, 1, 1, 2, 2, 3, 3, 4, 4.
        x.see(1, 0, 34);
        check.due("stiff 2, 3", x.stiffs(0), 12);
        x.forget(0);
        x.see(1, 0, 31);
        check.due("stiff 8, 9", x.stiffs(0), 768);
        x.see(0, 0, 35);
        check.due("seen now, too", x.stiffs(0), 768);
        x.see(0, 0, 36);
        check.due("never", x.stiffs(0), 0);
        SpringBeads late = Make.one(0, 0, 0, 1);
        Make.speed(late, 0, 1);
        late.see(40, 0, 40);
        check.due("behind 40", late.stiffs(0) & 1, 1);
        late.see(40, 0, 41);
        check.due("behind 40, another", late.stiffs(0), 0);
    }

    private static void fromNowOn() {
        SpringBeads x = Make.one(0, 30, 5, 1);
        x.alter(0, 4, 50);
        x.see(1, 0, 40);
        x.ticks(1);
        // From 40 with speed -10 a pull of 5 * 10 or less goes on to 30 or less.
        check.due("from now on it is another place", x.stiffs(0), 0);
        x.alter(0, 4, 50);
        x.calm();
        check.due("and so again", x.stiffs(0), 32);
        x.keep(0);
        x.back(0);
        check.due("seen stays behind back()", x.count(0), 1);
    }

    private static void beadsThatAreGone() {
        SpringBeads x = Make.told("plain 30 5 2;plain 20 5 2;");
        x.see(0, 1, 50);
        check.due("kinds(0)", x.kinds(0), 15);
        x.cut(1);
        check.due("kinds(0) without it", x.kinds(0), 0);
        check.due("stiffs(0) without it", x.stiffs(0), 0);
        check.due("ask(0, 0) without it", x.ask(0, 0), SpringBeads.NONE);
        x.bind(0, 20, 5, 2);
        check.due("kinds(0) with another", x.kinds(0), 15);
    }

    private static void asking() {
        SpringBeads x = Make.one(0, 30, 5, 1);
        check.due("ask(1, 0)", x.ask(1, 0), SpringBeads.BAD);
        check.due("ask(-1, 0)", x.ask(-1, 0), SpringBeads.BAD);
        check.due("ask(0, 2)", x.ask(0, 2), SpringBeads.BAD);
        check.due("ask(0, -1)", x.ask(0, -1), SpringBeads.BAD);
        check.due("ask at rest", x.ask(0, 0), SpringBeads.NONE);
        check.due("ask at rest, 1", x.ask(0, 1), SpringBeads.NONE);
        x.alter(0, 4, 50);
        // Behind one tick all ten are at places of their own.
        check.due("ask(0, 0)", x.ask(0, 0), 1);
        check.due("ask(0, 1)", x.ask(0, 1), 1);
        x.see(1, 0, 40);
        check.due("one is left", x.ask(0, 0), SpringBeads.NONE);
        x.forget(0);
        x.alter(0, 4, 31);
        // 1 * stiff by 10 is 0 for all: it stays.
        check.due("none ever moves", x.ask(0, 0), SpringBeads.NONE);
        x.alter(0, 4, 32);
        // 2 * stiff by 10: 0 to 4 stay, 5 to 9 go by 1, to where 1 * stiff by 10 is 0: 31, 30, 29, ..
        check.due("two fives, first", x.ask(0, 0) >= 1 ? 1 : 0, 1);
        check.due("five at the worst", x.ask(0, 1), 5);
        check.due("the first of several", x.ask(0, 0), 1);
        x.see(0, 0, 33);
        check.due("nothing is so", x.ask(0, 0), SpringBeads.NONE);
    }
}
