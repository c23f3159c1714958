/**
 * Ways to ask an object all that can be asked. What no call tells by itself (what is on the tape, in images, on
 * sheets, which sight is which) is asked by calls that change the object, so each probe is for an object of its own.
 */
enum Probe {
    PLAIN, FAULT, FORESIGHT, CHOICE, TAPE, IMAGES, LOW_SHEETS, HIGH_SHEETS, SIGHTS, RUN_ON;

    String of(Subject s) {
        StringBuilder told = new StringBuilder();
        switch (this) {
            case PLAIN -> plain(s, told);
            case FAULT -> tell(s, told, "fault");
            case FORESIGHT -> foresight(s, told);
            case CHOICE -> choice(s, told);
            case TAPE -> tape(s, told);
            case IMAGES -> images(s, told);
            case LOW_SHEETS -> sheets(s, told, 0);
            case HIGH_SHEETS -> sheets(s, told, 2);
            case SIGHTS -> sights(s, told);
            default -> runOn(s, told);
        }
        return told.toString();
    }

    private static void tell(Subject s, StringBuilder told, String call, int... numbers) {
        told.append(Subject.spell(call, numbers)).append(' ').append(s.ask(call, numbers)).append('\n');
    }

    private static void plain(Subject s, StringBuilder told) {
        for (int what = 0; what <= 5; what++) {
            tell(s, told, "rule", what);
            tell(s, told, "count", what);
        }
        for (int b = 0; b < 4; b++) {
            for (int what = 0; what <= 7; what++) {
                tell(s, told, "bead", b, what);
            }
        }
        for (int i = 0; i < 12; i++) {
            tell(s, told, "knock", i, 0);
            tell(s, told, "knock", i, 1);
        }
        tell(s, told, "torn");
    }

    private static void foresight(Subject s, StringBuilder told) {
        for (int what = 0; what <= 3; what++) {
            tell(s, told, "runs", 0, what);
            tell(s, told, "runs", 1, what);
            tell(s, told, "runs", 200, what);
        }
        for (int b = 0; b < 4; b++) {
            tell(s, told, "ahead", b, 3, 0);
            tell(s, told, "ahead", b, 3, 1);
            tell(s, told, "when", b, 0);
            tell(s, told, "when", b, 90);
            tell(s, told, "kinds", b);
            tell(s, told, "stiffs", b);
            tell(s, told, "ask", b, 0);
            tell(s, told, "ask", b, 1);
        }
        tell(s, told, "rests");
    }

    private static void choice(Subject s, StringBuilder told) {
        for (int what = 0; what <= 1; what++) {
            for (int b = 0; b < 4; b++) {
                tell(s, told, "stiff", b, 5, what);
                tell(s, told, "rest", b, 5, what);
                tell(s, told, "kind", b, 5, what);
                tell(s, told, "mass", b, 5, what);
            }
            tell(s, told, "swap", 12, what);
            tell(s, told, "miss", 12, what);
            tell(s, told, "luck", 3, 90, 4, what);
            tell(s, told, "mean", 3, 4, what);
            tell(s, told, "drift", 7, 30, what);
        }
    }

    /** A byte behind all shows what was there last; the text shows the rest. */
    private static void tape(Subject s, StringBuilder told) {
        tell(s, told, "feed", ';');
        tell(s, told, "text");
        tell(s, told, "fault");
        plain(s, told);
    }

    private static void images(Subject s, StringBuilder told) {
        for (int k = 0; k <= 1; k++) {
            tell(s, told, "back", k);
            plain(s, told);
        }
    }

    private static void sheets(Subject s, StringBuilder told, int first) {
        for (int k = first; k <= first + 1; k++) {
            for (int lane = 0; lane < 3; lane++) {
                for (int f : new int[] {0, 1, 4, 5, 38, 39}) {
                    s.ask("drop", 0);
                    tell(s, told, "read", k, lane, f, 1);
                    tell(s, told, "torn");
                    told.append(s.ask("knock", 0, 0)).append(' ').append(s.ask("knock", 0, 1)).append('\n');
                }
            }
        }
    }

    private static void sights(Subject s, StringBuilder told) {
        for (int n = 6; n >= 0; n--) {
            tell(s, told, "forget", n);
            for (int b = 0; b < 4; b++) {
                tell(s, told, "kinds", b);
                tell(s, told, "stiffs", b);
            }
        }
    }

    private static void runOn(Subject s, StringBuilder told) {
        tell(s, told, "ticks", 1);
        plain(s, told);
        tell(s, told, "ticks", 13);
        plain(s, told);
    }
}
