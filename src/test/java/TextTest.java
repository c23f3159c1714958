/** Promises 1 to 8: a new object, the tape, the text, what there is. */
public final class TextTest {
    private static final Check check = new Check();

    public static void main(String[] args) {
        newObject();
        feeding();
        ending();
        texts();
        faults();
        firstFaultCounts();
        faultyTextLeavesAll();
        takenTextTellsAll();
        rules();
        beads();
        pulls();
        knocks();
        check.end();
    }

    private static void newObject() {
        SpringBeads x = new SpringBeads();
        for (int what = 0; what <= 5; what++) {
            check.due("new: rule(" + what + ")", x.rule(what), 0);
        }
        check.due("new: fault()", x.fault(), 0);
        check.due("new: torn()", x.torn(), 0);
        check.due("new: count(0)", x.count(0), 0);
        check.due("new: count(1)", x.count(1), 0);
        check.due("new: count(2)", x.count(2), 0);
        check.due("new: count(3)", x.count(3), SpringBeads.NONE);
        check.due("new: bead(0, 0)", x.bead(0, 0), SpringBeads.BAD);
        check.due("new: knock(0, 0)", x.knock(0, 0), SpringBeads.BAD);
        for (int k = 0; k < 4; k++) {
            check.due("new: lay(" + k + ", 0, 0)", x.lay(k, 0, 0), -11);
        }
        check.due("new: back(0)", x.back(0), SpringBeads.STATE);
        check.due("new: back(1)", x.back(1), SpringBeads.STATE);
        check.due("new: BAD", SpringBeads.BAD, -1);
        check.due("new: STATE", SpringBeads.STATE, -2);
        check.due("new: FULL", SpringBeads.FULL, -3);
        check.due("new: NONE", SpringBeads.NONE, -4);
    }

    private static void feeding() {
        SpringBeads x = new SpringBeads();
        check.due("feed(-1)", x.feed(-1), SpringBeads.BAD);
        check.due("feed(128)", x.feed(128), SpringBeads.BAD);
        check.due("feed(0)", x.feed(0), 1);
        check.due("feed(127)", x.feed(127), 2);
        for (int i = 3; i <= 160; i++) {
            check.due("feed " + i, x.feed(32), i);
        }
        check.due("feed when full", x.feed(32), SpringBeads.FULL);
        check.due("feed(128) when full", x.feed(128), SpringBeads.BAD);
        check.due("count(2) when full", x.count(2), 160);
    }

    private static void ending() {
        SpringBeads x = new SpringBeads();
        Make.feed(x, "drag 3;xyz");
        check.due("end(-1)", x.end(-1), SpringBeads.BAD);
        check.due("end(11)", x.end(11), SpringBeads.BAD);
        check.due("end(10)", x.end(10), 10);
        check.due("end(7)", x.end(7), 10);
        check.due("count(2)", x.count(2), 7);
        check.due("text of what is kept", x.text(), 1);
        check.due("rule(3)", x.rule(3), 3);
        check.due("end(0) of nothing", x.end(0), 0);
        Make.feed(x, "rope   ");
        x.end(4);
        check.due("what is cut off is read no more", x.text(), -14);
        Make.feed(x, Make.repeat(" ", 153) + "drag 2;");
        check.due("a full tape", x.text(), 1);
        Make.feed(x, Make.repeat(" ", 160));
        check.due("a tape full of blanks", x.text(), 0);
        Make.feed(x, Make.repeat(" ", 156) + "drag");
        check.due("a full tape that ends too soon", x.text(), -170);
        Make.feed(x, Make.repeat(" ", 158) + "12");
        check.due("a full tape that ends in a number", x.text(), -168);
    }

    private static void taken(String text, int lines) {
        SpringBeads x = new SpringBeads();
        check.due("text '" + text + "'", Make.tell(x, text), lines);
        check.due("fault() of '" + text + "'", x.fault(), 0);
        check.due("tape behind '" + text + "'", x.count(2), 0);
    }

    private static void refused(String text, int place, int fault) {
        SpringBeads x = new SpringBeads();
        check.due("text '" + text + "'", Make.tell(x, text), -10 - place);
        check.due("fault() of '" + text + "'", x.fault(), fault);
        check.due("tape behind '" + text + "'", x.count(2), 0);
    }

    private static void texts() {
        taken("", 0);
        taken("   ", 0);
        taken("plain 30 5 2;", 1);
        taken("plain30 5 2;", 1);
        taken("  plain  30  5  2  ;  ", 1);
        taken("plain 60 9 9;rope 0 0 1;block 00 09 01;slack 5 5 5;", 4);
        taken("drag 0;", 1);
        taken("drag 3;", 1);
        taken("on 0 0;on3 9;back 3 9;back 0 0;", 4);
        taken(Make.FOUR, 9);
        taken(Make.repeat("on 0 0;", 12) + "rope 1 1 1;", 13);
    }

    private static void faults() {
        refused("Plain 1 1 1;", 0, 1);
        refused("plain\t1 1 1;", 5, 1);
        refused("plain 1,1 1;", 7, 1);
        refused("plain 100 1 1;", 6, 1);
        refused("plain 1 1 1;  000", 14, 1);
        refused("plain -1 1 1;", 6, 1);
        refused("" + (char) 0, 0, 1);
        refused("" + (char) 127, 0, 1);
        refused("drag 1:", 6, 1);
        refused("plains 1 1 1;", 0, 2);
        refused("plai 1 1 1;", 0, 2);
        refused("xlain 1 1 1;", 0, 2);
        refused("plaix 1 1 1;", 0, 2);
        refused("in 1 1;", 0, 2);
        refused("plainrope 1 1 1;", 0, 2);
        refused(" ;", 1, 2);
        refused("4;", 0, 2);
        refused("drag 1;;", 7, 2);
        refused("plain x 1 1;", 6, 2);
        refused("plain 1 1;", 9, 2);
        refused("plain 1 1 1 1;", 12, 2);
        refused("plain 1 1 1", 11, 2);
        refused("plain 1 1 1  ", 13, 2);
        refused("rope", 4, 2);
        refused("on 1;", 4, 2);
        refused("on 1 ", 5, 2);
        refused("back 1 1 1;", 9, 2);
        refused("drag;", 4, 2);
        refused("drag drag 1;", 5, 2);
        refused("plain 61 1 1;", 6, 3);
        refused("plain 1 10 1;", 8, 3);
        refused("plain 1 1 0;", 10, 3);
        refused("plain 1 1 10;", 10, 3);
        refused("on 4 1;", 3, 3);
        refused("on 1 10;", 5, 3);
        refused("back 4 1;", 5, 3);
        refused("back 1 10;", 7, 3);
        refused("drag 4;", 5, 3);
        refused("drag 1;drag 1;", 7, 4);
        refused(Make.repeat("rope 1 1 1;", 5), 44, 5);
        refused(Make.repeat("on 1 1;", 13), 84, 5);
        refused(Make.repeat("on 1 1;", 6) + Make.repeat("back 1 1;", 7), 96, 5);
    }

    private static void firstFaultCounts() {
        refused("plain 99 999 x", 6, 3);
        refused("plain 999 99 x", 6, 1);
        refused("drag 1;drag ?", 7, 4);
        refused(Make.repeat("rope 1 1 1;", 4) + "block?", 44, 5);
        refused(Make.repeat("on 1 1;", 12) + "back X", 84, 5);
        refused("ball ?", 0, 2);
        refused("on 4?", 3, 3);
        refused("on 1 1?", 6, 1);
    }

    private static void faultyTextLeavesAll() {
        SpringBeads x = Make.told(Make.FOUR);
        x.ticks(3);
        x.see(0, 0, x.bead(0, 4));
        x.keep(0);
        String was = Make.picture(x);
        check.due("faulty text", Make.tell(x, "rope 1 1 1;drag 2;on 1 1;rope"), -39);
        check.due("fault()", x.fault(), 2);
        check.due("text again, taken from nothing but told anew", x.count(2), 0);
        check.due("rule(2) stays", x.rule(2), 3);
        check.due("images stay", x.count(1), 1);
        check.due("image stays", x.back(0), 3);
        check.holds("all but the fault stays",
                was.substring(0, was.length() - 3).equals(Make.picture(x).substring(0, was.length() - 3)));
    }

    private static void takenTextTellsAll() {
        SpringBeads x = Make.told(Make.FOUR);
        Make.tell(x, "rope");
        check.due("fault() before", x.fault(), 2);
        x.ticks(7);
        x.see(0, 0, 30);
        x.keep(0);
        x.keep(1);
        x.sheet(0, 2, 5);
        x.read(1, 0, 0, 1);
        x.runs(50, 0);
        check.due("text()", Make.tell(x, "block 7 8 9;back 2 5;"), 2);
        check.due("fault() behind", x.fault(), 0);
        check.due("beads", x.rule(0), 1);
        check.due("knocks", x.rule(1), 1);
        check.due("tick", x.rule(2), 0);
        check.due("drag", x.rule(3), 0);
        check.due("place", x.bead(0, 4), 7);
        check.due("speed", x.bead(0, 5), 100);
        check.due("seen", x.count(0), 0);
        check.due("images", x.count(1), 0);
        check.due("back(0)", x.back(0), SpringBeads.STATE);
        check.due("back(1)", x.back(1), SpringBeads.STATE);
        check.due("sheet 0 stays", x.count(3), 5);
        check.due("torn() stays", x.torn(), 1);
        check.due("text() of nothing", x.text(), 0);
        check.due("no beads then", x.rule(0), 0);
        check.due("no knocks then", x.rule(1), 0);
    }

    private static void rules() {
        SpringBeads x = Make.told(Make.FOUR);
        check.due("rule(0)", x.rule(0), 4);
        check.due("rule(1)", x.rule(1), 4);
        check.due("rule(2)", x.rule(2), 0);
        check.due("rule(3)", x.rule(3), 1);
        check.due("rule(4)", x.rule(4), 15);
        check.due("rule(5)", x.rule(5), 115);
        check.due("rule(-1)", x.rule(-1), SpringBeads.BAD);
        check.due("rule(6)", x.rule(6), SpringBeads.BAD);
        x.hit(1, 0);
        x.hit(3, 18);
        check.due("rule(4) of two that move", x.rule(4), 5);
        x.cut(2);
        check.due("rule(4) of two", x.rule(4), 1);
        check.due("rule(5) of two", x.rule(5), 50);
        x.ticks(2);
        check.due("rule(2) behind two", x.rule(2), 2);
    }

    private static void beads() {
        SpringBeads x = Make.told(Make.FOUR);
        int[][] want = {
            {0, 30, 5, 2, 30, 100, 1000, 10000},
            {1, 20, 9, 1, 50, 100, 1000, 10000},
            {2, 40, 3, 4, 90, 100, 1000, 10000},
            {3, 25, 7, 1, 115, 100, 1000, 10000},
        };
        for (int b = 0; b < 4; b++) {
            for (int what = 0; what < 8; what++) {
                check.due("bead(" + b + ", " + what + ")", x.bead(b, what), want[b][what]);
            }
            check.due("bead(" + b + ", -1)", x.bead(b, -1), SpringBeads.BAD);
            check.due("bead(" + b + ", 8)", x.bead(b, 8), SpringBeads.BAD);
        }
        check.due("bead(-1, 0)", x.bead(-1, 0), SpringBeads.BAD);
        check.due("bead(4, 0)", x.bead(4, 0), SpringBeads.BAD);
        x.cut(2);
        check.due("bead(2, 0) behind a cut", x.bead(2, 0), SpringBeads.BAD);
    }

    /** The pull of one bead of each kind with stiffness 3 by its stretch. */
    private static void pulls() {
        int[] stretches = {-30, -6, -5, -1, 0, 1, 5, 6, 30};
        for (int stretch : stretches) {
            SpringBeads x = Make.one(0, 50, 3, 1);
            x.alter(0, 4, 50 + stretch);
            check.due("stretch " + stretch, x.bead(0, 6), 1000 + stretch);
            check.due("plain " + stretch, x.bead(0, 7), 10000 + 3 * stretch);
            x.alter(0, 0, 1);
            check.due("rope " + stretch, x.bead(0, 7), 10000 + (stretch < 0 ? 0 : 3 * stretch));
            x.alter(0, 0, 2);
            check.due("block " + stretch, x.bead(0, 7), 10000 + (stretch > 0 ? 0 : 3 * stretch));
            x.alter(0, 0, 3);
            boolean near = stretch >= -5 && stretch <= 5;
            check.due("slack " + stretch, x.bead(0, 7), 10000 + (near ? 0 : 3 * stretch));
        }
        SpringBeads x = new SpringBeads();
        x.bind(0, 20, 1, 1);
        x.bind(0, 60, 9, 1);
        x.alter(0, 4, 300);
        x.alter(1, 4, 0);
        check.due("least stretch", x.bead(1, 6), 640);
        check.due("least pull", x.bead(1, 7), 10000 - 9 * 360);
    }

    private static void knocks() {
        SpringBeads x = Make.told("on 3 9;back 0 7;back 1 0;");
        int[][] want = {{3, 18}, {0, 2}, {1, 9}};
        for (int i = 0; i < 3; i++) {
            check.due("knock(" + i + ", 0)", x.knock(i, 0), want[i][0]);
            check.due("knock(" + i + ", 1)", x.knock(i, 1), want[i][1]);
        }
        check.due("knock(-1, 0)", x.knock(-1, 0), SpringBeads.BAD);
        check.due("knock(3, 0)", x.knock(3, 0), SpringBeads.BAD);
        check.due("knock(0, -1)", x.knock(0, -1), SpringBeads.BAD);
        check.due("knock(0, 2)", x.knock(0, 2), SpringBeads.BAD);
    }
}
