/** States that calls are refused in; each is made anew by the same calls, so two of one state are twins. */
enum State {
    /** Nothing but what a new object has. */
    FRESH,
    /** Some of all there is: something may be added to each, and something taken from it. */
    BUSY,
    /** As much of all as there may be, the tape too. */
    BRIM,
    /** Tick 9999, and a bead that was seen and is there no more. */
    LATE;

    /** Exactly as long as the tape: four beads, twelve knocks. */
    static final String FULL_TEXT = "slack 60 9 9;".repeat(4) + "back 3 9;".repeat(12);

    Subject make() {
        switch (this) {
            case FRESH:
                return new Subject();
            case BUSY:
                return busy();
            case BRIM:
                return brim();
            default:
                return late();
        }
    }

    private static Subject busy() {
        Subject s = new Subject().with("bind", 0, 30, 5, 2).with("bind", 1, 20, 9, 1).with("bind", 2, 40, 3, 4);
        s.with("add", 2, 18).with("add", 0, 2).with("add", 1, 13).with("add", 3, 7);
        s.with("drag", 1).with("hit", 1, 14).with("ticks", 7).with("keep", 0).with("hit", 2, 18).with("ticks", 2);
        s.seenSo(3, 0).seenSo(9, 1).seenSo(0, 2);
        s.with("sheet", 0, 0, 6).with("sheet", 1, 1, 3).with("sheet", 2, 2, 0);
        int[] cells = {1, 18, 3, 0, 2, 9};
        for (int i = 0; i < cells.length; i++) {
            s.with("lay", 0, i, cells[i]);
        }
        s.with("lay", 1, 0, 2).with("lay", 1, 1, 5).with("lay", 1, 2, 3);
        // One comes and the next one is torn; then a text with a fault.
        s.with("read", 0, 0, 4, 2);
        return s.fed("on 4").with("text").fed("drag 2;on 1 3");
    }

    private static Subject brim() {
        Subject s = new Subject();
        for (int b = 0; b < 4; b++) {
            s.with("bind", b, 60, 9, 9 - b);
        }
        for (int i = 0; i < 12; i++) {
            s.with("add", i % 4, 18 - i);
        }
        s.with("drag", 3).with("hit", 3, 18).with("hit", 3, 18).with("ticks", 5).with("keep", 0);
        s.with("alter", 2, 4, 300).with("hit", 0, 0).with("ticks", 3).with("keep", 1).with("drag", 1);
        for (int i = 0; i < 6; i++) {
            s.seenSo(8 * i, i % 4);
        }
        for (int k = 0; k < 4; k++) {
            s.with("sheet", k, k % 3, 40);
            for (int i = 0; i < 2; i++) {
                s.with("lay", k, 38 * i, 3 - k).with("lay", k, 38 * i + 1, 12 + k);
            }
        }
        s.with("read", 0, 1, 0, 1);
        return s.fed("?").with("text").fed(FULL_TEXT);
    }

    private static Subject late() {
        Subject s = new Subject().with("bind", 0, 30, 5, 1).with("bind", 3, 20, 1, 1).with("hit", 0, 18);
        s.with("add", 0, 12).with("see", 0, 0, 30).with("see", 1, 1, 50).with("cut", 1);
        return s.often(99, "ticks", 100).with("ticks", 99).with("keep", 1).fed("drag 1;drag");
    }
}
