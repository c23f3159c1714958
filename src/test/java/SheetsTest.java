/** Promises 36 to 42: images, sheets, how many. */
public final class SheetsTest {
    private static final Check check = new Check();

    public static void main(String[] args) {
        images();
        sheets();
        eachSheet();
        laying();
        reading();
        tearing();
        readingNone();
        refusedReads();
        counting();
        check.end();
    }

    private static void images() {
        SpringBeads x = Make.told(Make.FOUR);
        check.due("keep(2)", x.keep(2), SpringBeads.BAD);
        check.due("keep(-1)", x.keep(-1), SpringBeads.BAD);
        check.due("back(2)", x.back(2), SpringBeads.BAD);
        check.due("back(-1)", x.back(-1), SpringBeads.BAD);
        check.due("back(0) of none", x.back(0), SpringBeads.STATE);
        x.ticks(5);
        check.due("keep(0)", x.keep(0), 0);
        String was = Make.picture(x);
        x.ticks(9);
        x.alter(0, 0, 3);
        x.alter(1, 1, 1);
        x.alter(2, 2, 1);
        x.alter(3, 3, 9);
        x.alter(3, 4, 9);
        x.drop(1);
        x.add(2, 2);
        x.drag(3);
        check.due("keep(1)", x.keep(1), 0);
        x.cut(1);
        check.due("back(1) to another", x.back(1), 14);
        check.due("beads", x.rule(0), 4);
        check.due("knocks", x.rule(1), 2);
        check.due("drag", x.rule(3), 3);
        x.cut(0);
        x.drop(0);
        check.due("back(0)", x.back(0), 5);
        x.keep(0);
        SpringBeads y = Make.told(Make.FOUR);
        y.ticks(5);
        y.keep(0);
        y.keep(1);
        check.holds("all as it was", Make.picture(x).equals(Make.picture(y)));
        check.holds("a picture of one image differs", !was.equals(Make.picture(x)));
        check.due("keep(0) again", x.keep(0), 1);
        check.due("keep(1) again", x.keep(1), 1);
        x.ticks(1);
        check.due("an image is a copy", x.back(0), 5);
        check.due("and stays", x.back(0), 5);
        // Knocks of an image are all of them, those of beads that are not there, too.
        SpringBeads z = Make.told("on 3 9;on 2 1;");
        z.keep(0);
        z.drop(0);
        z.add(0, 0);
        z.add(0, 0);
        z.back(0);
        check.due("knock(0, 0)", z.knock(0, 0), 3);
        check.due("knock(1, 1)", z.knock(1, 1), 10);
    }

    private static void sheets() {
        SpringBeads x = new SpringBeads();
        check.due("sheet(4, 0, 1)", x.sheet(4, 0, 1), SpringBeads.BAD);
        check.due("sheet(-1, 0, 1)", x.sheet(-1, 0, 1), SpringBeads.BAD);
        check.due("sheet(0, 3, 1)", x.sheet(0, 3, 1), SpringBeads.BAD);
        check.due("sheet(0, -1, 1)", x.sheet(0, -1, 1), SpringBeads.BAD);
        check.due("sheet(0, 0, 41)", x.sheet(0, 0, 41), SpringBeads.BAD);
        check.due("sheet(0, 0, -1)", x.sheet(0, 0, -1), -14);
        check.due("sheet(0, 0, least)", x.sheet(0, 0, Integer.MIN_VALUE), -14);
        check.due("sheet(4, 0, -1)", x.sheet(4, 0, -1), SpringBeads.BAD);
        check.due("sheet(0, 3, -1)", x.sheet(0, 3, -1), SpringBeads.BAD);
        check.due("still nothing", x.count(3), SpringBeads.NONE);
        check.due("sheet(0, 0, 0)", x.sheet(0, 0, 0), 1);
        check.due("no cells", x.count(3), 0);
        check.due("lay in none", x.lay(0, 0, 0), -12);
        check.due("sheet(0, 2, 40)", x.sheet(0, 2, 40), 1);
        check.due("40 cells", x.count(3), 40);
        check.due("lay in the last", x.lay(0, 39, 5), 1);
        check.due("sheet below 0 leaves it", x.sheet(0, 0, -1), -14);
        check.due("40 cells still", x.count(3), 40);
        x.lay(0, 0, 3);
        x.lay(0, 1, 18);
        check.due("read", x.read(0, 2, 0, 1), 1);
        x.sheet(0, 2, 40);
        check.due("read of cells 0", x.read(0, 2, 0, 1), 1);
        check.due("bead 0", x.knock(1, 0), 0);
        check.due("by -9", x.knock(1, 1), 0);
    }

    private static void eachSheet() {
        SpringBeads x = new SpringBeads();
        for (int k = 0; k < 4; k++) {
            check.due("sheet of its own " + k, x.sheet(k, k % 3, 2 + k), 1);
        }
        for (int k = 0; k < 4; k++) {
            check.due("its last cell " + k, x.lay(k, 1 + k, 0), 1);
            check.due("behind its last cell " + k, x.lay(k, 2 + k, 0), -12);
            check.due("its bead " + k, x.lay(k, 0, k), 1);
            check.due("its size " + k, x.lay(k, 1, 10 + k), 1);
        }
        for (int k = 0; k < 4; k++) {
            check.due("read of its own " + k, x.read(k, k % 3, 0, 1), 1);
            check.due("knock bead of its own " + k, x.knock(k, 0), k);
            check.due("knock size of its own " + k, x.knock(k, 1), 10 + k);
        }
    }

    private static void laying() {
        SpringBeads x = new SpringBeads();
        check.due("lay(4, ..)", x.lay(4, 0, 0), SpringBeads.BAD);
        check.due("lay(-1, ..)", x.lay(-1, 0, 0), SpringBeads.BAD);
        check.due("lay in nothing", x.lay(0, -1, 0), -11);
        x.sheet(0, 0, 4);
        x.sheet(1, 1, 4);
        x.sheet(2, 2, 4);
        check.due("lay(0, 4, 0)", x.lay(0, 4, 0), -12);
        check.due("lay(0, -1, 0)", x.lay(0, -1, 0), -12);
        check.due("lay(0, most, 0)", x.lay(0, Integer.MAX_VALUE, 0), -12);
        // 256 + 3 is 3 as a byte, 65536 + 3 is 3 as a short, both are too great as ints.
        int[] beads = {259, 65539, 3};
        int[] sizes = {-256 + 18, -65536 + 18, 18};
        for (int k = 0; k < 3; k++) {
            check.due("lay " + k, x.lay(k, 0, beads[k]), 1);
            check.due("lay " + k, x.lay(k, 1, sizes[k]), 1);
            x.drop(0);
            check.due("read " + k, x.read(k, k, 0, 1), 1);
            check.due("its bead " + k, x.knock(0, 0), 3);
            check.due("its size " + k, x.knock(0, 1), 18);
        }
        x.lay(1, 0, 259);
        check.due("a short keeps 259", x.read(1, 1, 0, 1), -20);
        x.lay(2, 0, 65539);
        check.due("an int keeps 65539", x.read(2, 2, 0, 1), -20);
        x.lay(0, 0, 128);
        check.due("a byte has a sign", x.read(0, 0, 0, 1), -20);
        x.lay(1, 0, 65535);
        check.due("a short has a sign", x.read(1, 1, 0, 1), -20);
        x.lay(0, 2, 1);
        check.due("other cells stay", x.read(0, 0, 2, 1), 1);
    }

    private static SpringBeads withSheet(int lane, int... cells) {
        SpringBeads x = new SpringBeads();
        x.sheet(1, lane, cells.length);
        for (int i = 0; i < cells.length; i++) {
            x.lay(1, i, cells[i]);
        }
        return x;
    }

    private static void reading() {
        SpringBeads x = withSheet(1, 9, 0, 18, 3, 0, 2, 9);
        check.due("read(4, ..)", x.read(4, 1, 0, 0), SpringBeads.BAD);
        check.due("read(-1, ..)", x.read(-1, 1, 0, 0), SpringBeads.BAD);
        check.due("read(1, 3, ..)", x.read(1, 3, 0, 0), SpringBeads.BAD);
        check.due("read(1, -1, ..)", x.read(1, -1, 0, 0), SpringBeads.BAD);
        check.due("read(1, 1, 0, 21)", x.read(1, 1, 0, 21), SpringBeads.BAD);
        check.due("read(1, 1, 0, -1)", x.read(1, 1, 0, -1), SpringBeads.BAD);
        check.due("read of 0", x.read(1, 1, 1, 0), 0);
        check.due("read of 0 anywhere", x.read(1, 1, -9, 0), 0);
        check.due("no fault", x.torn(), 0);
        x.add(1, 1);
        check.due("read of 3", x.read(1, 1, 1, 3), 3);
        check.due("knocks", x.rule(1), 4);
        int[][] want = {{1, 1}, {0, 18}, {3, 0}, {2, 9}};
        for (int i = 0; i < 4; i++) {
            check.due("bead " + i, x.knock(i, 0), want[i][0]);
            check.due("size " + i, x.knock(i, 1), want[i][1]);
        }
        SpringBeads wide = withSheet(0, new int[40]);
        check.due("read of 12", wide.read(1, 0, 16, 12), 12);
        check.due("full", wide.read(1, 0, 16, 1), -20);
    }

    private static void torn(SpringBeads x, int k, int lane, int f, int n, int came, int fault) {
        String call = "read(" + k + ", " + lane + ", " + f + ", " + n + ")";
        check.due(call, x.read(k, lane, f, n), came);
        check.due("torn() behind " + call, x.torn(), fault);
    }

    private static void tearing() {
        SpringBeads x = withSheet(2, 0, 0, 1, 1, 2);
        torn(x, 0, 2, 0, 1, 0, 1);
        torn(x, 0, 0, -1, 20, 0, 1);
        torn(x, 1, 0, 0, 1, 0, 3);
        torn(x, 1, 1, -1, 1, 0, 3);
        torn(x, 1, 2, -1, 1, 0, 2);
        torn(x, 1, 2, 4, 1, 0, 2);
        torn(x, 1, 2, 5, 1, 0, 2);
        torn(x, 1, 2, Integer.MAX_VALUE, 20, 0, 2);
        torn(x, 1, 2, Integer.MIN_VALUE, 20, 0, 2);
        check.due("none came", x.rule(1), 0);
        torn(x, 1, 2, 0, 3, 2, 2);
        check.due("those that were whole came", x.rule(1), 2);
        check.due("the second", x.knock(1, 0), 1);
        torn(x, 1, 2, 0, 1, 1, 0);
        torn(x, 1, 2, 2, 20, 1, 2);
        torn(x, 1, 2, 0, 0, 0, 0);
        SpringBeads half = withSheet(0, 7);
        torn(half, 1, 0, 0, 1, 0, 2);
    }

    /** Where no knock is read the machine refuses nothing, whatever the sheet is; a fault told before is gone. */
    private static void readingNone() {
        SpringBeads x = withSheet(2, 0, 0, 1, 1);
        x.sheet(2, 0, 0);
        for (int k = 0; k < 4; k++) {
            for (int lane = 0; lane < 3; lane++) {
                for (int f : new int[] {0, 3, 4, -1, Integer.MAX_VALUE, Integer.MIN_VALUE}) {
                    torn(x, 1, 2, 9, 1, 0, 2);
                    torn(x, k, lane, f, 0, 0, 0);
                }
            }
        }
        check.due("none came", x.rule(1), 0);
        // One knock is enough for each fault: nothing as of any lane, another lane even without cells.
        torn(x, 0, 1, 0, 1, 0, 1);
        torn(x, 2, 1, 0, 1, 0, 3);
        torn(x, 2, 0, 0, 1, 0, 2);
    }

    private static void refusedReads() {
        SpringBeads x = withSheet(1, 0, 18, 3, 0, 4, 0, 0, 19, 0, -1, -1, 0);
        torn(x, 1, 1, 12, 1, 0, 2);
        check.due("bead 4", x.read(1, 1, 0, 3), -22);
        check.due("none came", x.rule(1), 0);
        check.due("torn() stays behind a refusal", x.torn(), 2);
        check.due("size 19", x.read(1, 1, 6, 1), -20);
        check.due("size -1", x.read(1, 1, 8, 1), -20);
        check.due("bead -1", x.read(1, 1, 10, 1), -20);
        check.due("the refused one ahead of the torn one", x.read(1, 1, 2, 20), -21);
        check.due("torn() stays behind bad", x.read(1, 1, 0, 21) + x.torn(), 1);
        for (int i = 0; i < 11; i++) {
            x.add(2, 2);
        }
        check.due("the 13th", x.read(1, 1, 0, 2), -21);
        check.due("none came then", x.rule(1), 11);
        check.due("the 12th", x.read(1, 1, 0, 1), 1);
        check.due("full at once", x.read(1, 1, 0, 1), -20);
        check.due("none when full", x.read(1, 1, 0, 0), 0);
    }

    private static void counting() {
        SpringBeads x = Make.told(Make.FOUR);
        x.see(1, 1, 1);
        x.see(1, 1, 1);
        x.keep(1);
        Make.feed(x, "abc");
        check.due("count(0)", x.count(0), 2);
        check.due("count(1)", x.count(1), 1);
        check.due("count(2)", x.count(2), 3);
        check.due("count(3)", x.count(3), SpringBeads.NONE);
        check.due("count(4)", x.count(4), 24);
        check.due("count(5)", x.count(5), 8);
        check.due("count(-1)", x.count(-1), SpringBeads.BAD);
        check.due("count(6)", x.count(6), SpringBeads.BAD);
        x.sheet(1, 0, 7);
        check.due("count(3) of another sheet", x.count(3), SpringBeads.NONE);
        x.sheet(0, 0, 7);
        check.due("count(3) of sheet 0", x.count(3), 7);
        x.keep(0);
        check.due("two images", x.count(1), 2);
        x.cut(2);
        check.due("count(4) of two", x.count(4), 14);
        check.due("count(5) of two", x.count(5), 3);
    }
}
