/** Ways to a state that several tests use. */
final class Make {
    static final String FOUR =
            "plain 30 5 2;rope 20 9 1;block 40 3 4;slack 25 7 1;drag 1;on 3 9;back 0 7;on 1 4;back 3 2;";

    private Make() {
    }

    static void feed(SpringBeads x, String text) {
        for (int i = 0; i < text.length(); i++) {
            x.feed(text.charAt(i));
        }
    }

    static int tell(SpringBeads x, String text) {
        x.end(0);
        feed(x, text);
        return x.text();
    }

    static SpringBeads told(String text) {
        SpringBeads x = new SpringBeads();
        if (tell(x, text) < 0) {
            throw new IllegalStateException("not a text: " + text);
        }
        return x;
    }

    /** One bead alone. */
    static SpringBeads one(int kind, int rest, int stiff, int mass) {
        SpringBeads x = new SpringBeads();
        x.bind(kind, rest, stiff, mass);
        return x;
    }

    /** A speed is put by knocks of 9 at most. */
    static void speed(SpringBeads x, int b, int speed) {
        int left = speed - (x.bead(b, 5) - 100);
        while (left != 0) {
            int by = Math.max(-9, Math.min(9, left));
            x.hit(b, by + 9);
            left -= by;
        }
    }

    static String repeat(String part, int times) {
        StringBuilder whole = new StringBuilder();
        for (int i = 0; i < times; i++) {
            whole.append(part);
        }
        return whole.toString();
    }

    /** All that calls tell without a change, as one text. */
    static String picture(SpringBeads x) {
        StringBuilder s = new StringBuilder();
        for (int what = 0; what <= 5; what++) {
            s.append(x.rule(what)).append(' ').append(x.count(what)).append(' ');
        }
        for (int b = 0; b < 4; b++) {
            for (int what = 0; what <= 7; what++) {
                s.append(x.bead(b, what)).append(' ');
            }
            s.append(x.kinds(b)).append(' ').append(x.stiffs(b)).append(' ');
        }
        for (int i = 0; i < 12; i++) {
            s.append(x.knock(i, 0)).append(' ').append(x.knock(i, 1)).append(' ');
        }
        return s.append(x.fault()).append(' ').append(x.torn()).toString();
    }
}
