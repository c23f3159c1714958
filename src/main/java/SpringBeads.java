/**
 * Beads on springs on a line behind one wall. The number at each call is that of its promise in the
 * document; words in capitals there are told in its "Terms".
 *
 * No call makes an object: all rows are made once, in the constructor, and used again.
 */
public final class SpringBeads {
    public static final int BAD = -1, STATE = -2, FULL = -3, NONE = -4;

    private static final int MOST_BEADS = 4, MOST_KNOCKS = 12, MOST_SEEN = 6, IMAGES = 2;
    private static final int FAR_END = 300, FASTEST = 40, HARDEST = 9, MOST_DRAG = 3;
    private static final int LAST_TICK = 9999, LONG_RUN = 200, SHORT_RUN = 100, LOOK = 40;
    private static final int MOST_ODDS_TICKS = 8, ODDS = 10;

    // Traits of a bead, by the numbers that bead() and alter() give them, and their bounds.
    private static final int KIND = 0, REST = 1, STIFF = 2, MASS = 3, PLACE = 4;
    private static final int[] LEAST = {0, 0, 0, 1, 0};
    private static final int[] MOST = {3, 60, 9, 9, FAR_END};
    private static final int STIFFS = 10;

    private static final int ROPE = 1, BLOCK = 2, SLACK = 3, SLACK_REACH = 5;

    private static final int NULL_FAULT = 1, INDEX_FAULT = 2, CAST_FAULT = 3, SIZE_FAULT = 4;
    private static final int SHEETS = 4, LANES = 3, MOST_CELLS = 40, MOST_READ = 20;

    // No swing is as great as this, so a search that starts from it takes its first trial.
    private static final int ANY_SWING = FAR_END + 1;

    private final Chain now = new Chain();
    private final Chain trial = new Chain();
    private final Chain firstImage = new Chain();
    private final Chain secondImage = new Chain();
    private final boolean[] kept = new boolean[IMAGES];
    private final Tape tape = new Tape();
    private final Seen seen = new Seen();
    private final Sheets sheets = new Sheets();
    private final int[][] traces = new int[STIFFS][LOOK + 1];
    private int torn = 0;

    /** 1. */
    public SpringBeads() {
    }

    // ---- the text, what there is

    /** 2. */
    public int feed(int c) {
        if (!within(c, 0, 127)) {
            return BAD;
        }
        return tape.put(c) ? tape.length : FULL;
    }

    /** 3. */
    public int end(int n) {
        int had = tape.length;
        if (!within(n, 0, had)) {
            return BAD;
        }
        tape.length = n;
        return had;
    }

    /** 4. */
    public int text() {
        int lines = tape.tellInto(trial);
        tape.length = 0;
        if (tape.fault != 0) {
            return -10 - tape.faultPlace;
        }
        now.becomeLike(trial);
        seen.count = 0;
        kept[0] = false;
        kept[1] = false;
        return lines;
    }

    /** 5. */
    public int fault() {
        return tape.fault;
    }

    /** 6. */
    public int rule(int what) {
        switch (what) {
            case 0:
                return now.beads;
            case 1:
                return now.knocks;
            case 2:
                return now.tick;
            case 3:
                return now.drag;
            case 4:
                return now.stillBits();
            case 5:
                return now.lastPlace();
            default:
                return BAD;
        }
    }

    /** 7. */
    public int bead(int b, int what) {
        if (!now.has(b)) {
            return BAD;
        }
        switch (what) {
            case KIND:
            case REST:
            case STIFF:
            case MASS:
            case PLACE:
                return now.rowOf(what)[b];
            case 5:
                return 100 + now.speed[b];
            case 6:
                return 1000 + now.stretchOf(b);
            case 7:
                return 10000 + now.pullOf(b);
            default:
                return BAD;
        }
    }

    /** 8. */
    public int knock(int i, int what) {
        if (!within(i, 0, now.knocks - 1) || !within(what, 0, 1)) {
            return BAD;
        }
        return what == 0 ? now.knockBead[i] : HARDEST + now.knockBy[i];
    }

    // ---- what is changed

    /** 9. */
    public int alter(int b, int what, int v) {
        if (!now.has(b) || !within(what, KIND, PLACE) || !within(v, LEAST[what], MOST[what])) {
            return BAD;
        }
        int[] row = now.rowOf(what);
        int was = row[b];
        row[b] = v;
        return was;
    }

    /** 10. */
    public int drag(int v) {
        if (!within(v, 0, MOST_DRAG)) {
            return BAD;
        }
        int was = now.drag;
        now.drag = v;
        return was;
    }

    /** 11. */
    public int bind(int kind, int rest, int stiff, int mass) {
        if (!within(kind, LEAST[KIND], MOST[KIND]) || !within(rest, LEAST[REST], MOST[REST])
                || !within(stiff, LEAST[STIFF], MOST[STIFF]) || !within(mass, LEAST[MASS], MOST[MASS])) {
            return BAD;
        }
        return now.addBead(kind, rest, stiff, mass) ? now.beads : FULL;
    }

    /** 12. */
    public int cut(int n) {
        int had = now.beads;
        if (!within(n, 0, had)) {
            return BAD;
        }
        now.beads = n;
        return had;
    }

    /** 13. */
    public int hit(int b, int v) {
        if (!now.has(b) || !within(v, 0, 2 * HARDEST)) {
            return BAD;
        }
        now.knockOnce(b, v - HARDEST);
        return 100 + now.speed[b];
    }

    /** 14. */
    public int add(int b, int v) {
        if (!within(b, 0, MOST_BEADS - 1) || !within(v, 0, 2 * HARDEST)) {
            return BAD;
        }
        return now.addKnock(b, v - HARDEST) ? now.knocks : FULL;
    }

    /** 15. */
    public int drop(int n) {
        int had = now.knocks;
        if (!within(n, 0, had)) {
            return BAD;
        }
        now.knocks = n;
        return had;
    }

    /** 16. */
    public int calm() {
        int moving = now.beads - Integer.bitCount(now.stillBits());
        for (int b = 0; b < now.beads; b++) {
            now.speed[b] = 0;
        }
        return moving;
    }

    // ---- ticks

    /** 17. */
    public int ticks(int n) {
        if (!within(n, 0, SHORT_RUN)) {
            return BAD;
        }
        if (now.tick + n > LAST_TICK) {
            return FULL;
        }
        now.gone = 0;
        now.tickOften(n);
        return now.gone;
    }

    /** 18. */
    public int runs(int n, int what) {
        if (!within(n, 0, LONG_RUN) || !within(what, 0, 3)) {
            return BAD;
        }
        trial.becomeLike(now);
        int swing = trial.greatestSwing(n, ANY_SWING);
        switch (what) {
            case 0:
                return trial.gone;
            case 1:
                return swing;
            case 2:
                return trial.lastPlace();
            default:
                return trial.stops;
        }
    }

    /** 19. */
    public int ahead(int b, int n, int what) {
        if (!now.has(b) || !within(n, 0, LONG_RUN) || !within(what, 0, 1)) {
            return BAD;
        }
        trial.becomeLike(now);
        trial.tickOften(n);
        return what == 0 ? trial.place[b] : 100 + trial.speed[b];
    }

    /** 20. */
    public int when(int b, int v) {
        if (!now.has(b) || !within(v, 0, FAR_END)) {
            return BAD;
        }
        int side = Integer.compare(v, now.place[b]);
        trial.becomeLike(now);
        for (int t = 0; t <= LONG_RUN; t++) {
            int sideThen = Integer.compare(v, trial.place[b]);
            if (sideThen == 0 || sideThen != side) {
                return t;
            }
            trial.tickOnce();
        }
        return NONE;
    }

    /** 21. */
    public int rests() {
        trial.becomeLike(now);
        for (int t = 0; t <= LONG_RUN; t++) {
            trial.move();
            if (!trial.stirred) {
                return t;
            }
        }
        return NONE;
    }

    // ---- what is best

    /** 22. */
    public int stiff(int b, int n, int what) {
        return steadiest(STIFF, b, n, what);
    }

    /** 23. */
    public int rest(int b, int n, int what) {
        return steadiest(REST, b, n, what);
    }

    /** 24. */
    public int kind(int b, int n, int what) {
        return steadiest(KIND, b, n, what);
    }

    /** 25. */
    public int mass(int b, int n, int what) {
        return steadiest(MASS, b, n, what);
    }

    /** 26. */
    public int swap(int n, int what) {
        if (!within(n, 0, SHORT_RUN) || !within(what, 0, 1)) {
            return BAD;
        }
        int least = swingAsItIs(n);
        int pair = NONE;
        for (int i = 0; i < now.knocks; i++) {
            for (int j = i + 1; j < now.knocks; j++) {
                trial.becomeLike(now);
                trial.changePlaces(i, j);
                int swing = trial.greatestSwing(n, least);
                if (swing < least) {
                    least = swing;
                    pair = 100 * i + j;
                }
            }
        }
        return pair == NONE || what == 0 ? pair : least;
    }

    /** 27. */
    public int miss(int n, int what) {
        if (!within(n, 0, SHORT_RUN) || !within(what, 0, 1)) {
            return BAD;
        }
        int least = swingAsItIs(n);
        int worst = NONE;
        for (int i = 0; i < now.knocks; i++) {
            trial.becomeLike(now);
            // The plan keeps its length: a knock by 0 is nothing in its place.
            trial.knockBy[i] = 0;
            int swing = trial.greatestSwing(n, least);
            if (swing < least) {
                least = swing;
                worst = i;
            }
        }
        return worst == NONE || what == 0 ? worst : least;
    }

    private int swingAsItIs(int n) {
        trial.becomeLike(now);
        return trial.greatestSwing(n, ANY_SWING);
    }

    private int steadiest(int trait, int b, int n, int what) {
        if (!now.has(b) || !within(n, 0, SHORT_RUN) || !within(what, 0, 1)) {
            return BAD;
        }
        int least = ANY_SWING;
        int best = LEAST[trait];
        for (int v = LEAST[trait]; v <= MOST[trait]; v++) {
            tryWith(trait, b, v);
            int swing = trial.greatestSwing(n, least);
            if (swing < least) {
                least = swing;
                best = v;
            }
        }
        return what == 0 ? best : least;
    }

    private void tryWith(int trait, int b, int v) {
        trial.becomeLike(now);
        trial.rowOf(trait)[b] = v;
    }

    // ---- knocks that miss

    /** 28. */
    public long luck(int v, int e, int n, int what) {
        if (!within(v, 0, ODDS) || !within(e, 0, FAR_END) || !within(n, 0, MOST_ODDS_TICKS)
                || !within(what, 0, 1)) {
            return BAD;
        }
        if (now.beads == 0) {
            return STATE;
        }
        long sum = 0;
        for (int misses = 0; misses < 1 << n; misses++) {
            runMissing(misses, n);
            if (trial.lastPlace() >= e) {
                sum += weightOf(misses, v, n);
            }
        }
        return partOfFraction(sum, power(ODDS, n), what);
    }

    /** 29. */
    public long mean(int v, int n, int what) {
        if (!within(v, 0, ODDS) || !within(n, 0, MOST_ODDS_TICKS) || !within(what, 0, 1)) {
            return BAD;
        }
        long sum = 0;
        for (int misses = 0; misses < 1 << n; misses++) {
            runMissing(misses, n);
            sum += weightOf(misses, v, n) * Math.abs(trial.lastPlace() - now.lastPlace());
        }
        return partOfFraction(sum, power(ODDS, n), what);
    }

    /** Bit i of misses: the knock of the i-th tick misses. */
    private void runMissing(int misses, int n) {
        trial.becomeLike(now);
        for (int i = 0; i < n; i++) {
            if ((misses >> i & 1) == 0) {
                trial.knockByPlan();
            }
            trial.move();
        }
    }

    private static long weightOf(int misses, int v, int n) {
        int missing = Integer.bitCount(misses);
        return power(v, missing) * power(ODDS - v, n - missing);
    }

    private static long power(int base, int exponent) {
        long product = 1;
        for (int i = 0; i < exponent; i++) {
            product *= base;
        }
        return product;
    }

    private static long partOfFraction(long above, long below, int what) {
        long divisor = commonDivisor(above, below);
        if (divisor <= 0) {
            return what == 0 ? above : below;
        }
        return (what == 0 ? above : below) / divisor;
    }

    private static long commonDivisor(long a, long b) {
        long greater = a;
        long lesser = b;
        // Euclid's steps on two longs are fewer than a hundred.
        for (int i = 0; i < 100 && lesser != 0; i++) {
            long left = greater % lesser;
            greater = lesser;
            lesser = left;
        }
        return greater;
    }

    // ---- where it was

    /** 30. */
    public int see(int n, int b, int v) {
        if (!within(n, 0, LOOK) || !now.has(b) || !within(v, 0, FAR_END)) {
            return BAD;
        }
        return seen.note(n, b, v) ? seen.count : FULL;
    }

    /** 31. */
    public int forget(int n) {
        int had = seen.count;
        if (!within(n, 0, had)) {
            return BAD;
        }
        seen.count = n;
        return had;
    }

    /** 32. */
    public int kinds(int b) {
        return now.has(b) ? asSeenBits(KIND, b) : BAD;
    }

    /** 33. */
    public int stiffs(int b) {
        return now.has(b) ? asSeenBits(STIFF, b) : BAD;
    }

    /** 34. */
    public int ask(int b, int what) {
        if (!now.has(b) || !within(what, 0, 1)) {
            return BAD;
        }
        int left = asSeenBits(STIFF, b);
        traceStiffs(b, left);
        int fewest = Integer.bitCount(left);
        int first = NONE;
        for (int t = 0; t <= LOOK; t++) {
            int worst = mostAlike(left, t);
            if (worst < fewest) {
                fewest = worst;
                first = t;
            }
        }
        return first == NONE || what == 0 ? first : fewest;
    }

    private int asSeenBits(int trait, int b) {
        int bits = 0;
        for (int v = LEAST[trait]; v <= MOST[trait]; v++) {
            tryWith(trait, b, v);
            if (seen.isSoOf(trial)) {
                bits |= 1 << v;
            }
        }
        return bits;
    }

    private void traceStiffs(int b, int left) {
        for (int s = 0; s < STIFFS; s++) {
            if ((left >> s & 1) == 1) {
                tryWith(STIFF, b, s);
                for (int t = 0; t <= LOOK; t++) {
                    traces[s][t] = trial.place[b];
                    trial.tickOnce();
                }
            }
        }
    }

    /** How many of the stiffnesses left would still be, if the commonest place were seen then. */
    private int mostAlike(int left, int t) {
        int most = 0;
        for (int s = 0; s < STIFFS; s++) {
            int alike = 0;
            for (int other = 0; other < STIFFS; other++) {
                if ((left >> s & left >> other & 1) == 1 && traces[s][t] == traces[other][t]) {
                    alike++;
                }
            }
            most = Math.max(most, alike);
        }
        return most;
    }

    // ---- by a seed

    /** 35. */
    public int drift(int seed, int n, int what) {
        if (!within(n, 1, LONG_RUN) || !within(what, 0, 1)) {
            return BAD;
        }
        if (now.beads == 0) {
            return STATE;
        }
        trial.becomeLike(now);
        int home = now.lastPlace();
        int greatest = 0;
        int s = seed;
        for (int i = 0; i < n; i++) {
            s = s * 1103515245 + 12345;
            int got = s >>> 16 & 0x7FFF;
            trial.knockOnce(got % now.beads, got / 8 % (2 * HARDEST + 1) - HARDEST);
            trial.move();
            greatest = Math.max(greatest, Math.abs(trial.lastPlace() - home));
        }
        return what == 0 ? greatest : trial.lastPlace();
    }

    // ---- images, sheets

    /** 36. */
    public int keep(int k) {
        if (!within(k, 0, IMAGES - 1)) {
            return BAD;
        }
        int was = kept[k] ? 1 : 0;
        imageOf(k).becomeLike(now);
        kept[k] = true;
        return was;
    }

    /** 37. */
    public int back(int k) {
        if (!within(k, 0, IMAGES - 1)) {
            return BAD;
        }
        if (!kept[k]) {
            return STATE;
        }
        now.becomeLike(imageOf(k));
        return now.tick;
    }

    private Chain imageOf(int k) {
        return k == 0 ? firstImage : secondImage;
    }

    /** 38. */
    public int sheet(int k, int lane, int n) {
        if (!within(k, 0, SHEETS - 1) || !within(lane, 0, LANES - 1) || n > MOST_CELLS) {
            return BAD;
        }
        if (n < 0) {
            return -10 - SIZE_FAULT;
        }
        sheets.make(k, lane, n);
        return 1;
    }

    /** 39. */
    public int lay(int k, int i, int v) {
        if (!within(k, 0, SHEETS - 1)) {
            return BAD;
        }
        int fault = sheets.faultAt(k, i);
        if (fault != 0) {
            return -10 - fault;
        }
        sheets.put(k, i, v);
        return 1;
    }

    /** 40. */
    public int read(int k, int lane, int f, int n) {
        if (!within(k, 0, SHEETS - 1) || !within(lane, 0, LANES - 1) || !within(n, 0, MOST_READ)) {
            return BAD;
        }
        int had = now.knocks;
        // Each knock takes the sheet as of the lane: where none is read, nothing is refused.
        int fault = 0;
        int came = 0;
        for (int i = 0; i < n && fault == 0; i++) {
            fault = sheets.faultOfPair(k, lane, f, i);
            if (fault == 0) {
                int from = f + 2 * i;
                if (add(sheets.cells[k][from], sheets.cells[k][from + 1]) < 0) {
                    now.knocks = had;
                    return -20 - i;
                }
                came++;
            }
        }
        torn = fault;
        return came;
    }

    /** 41. */
    public int torn() {
        return torn;
    }

    /** 42. */
    public int count(int what) {
        switch (what) {
            case 0:
                return seen.count;
            case 1:
                return (kept[0] ? 1 : 0) + (kept[1] ? 1 : 0);
            case 2:
                return tape.length;
            case 3:
                return sheets.isNothing(0) ? NONE : sheets.size[0];
            case 4:
                return now.sumOf(STIFF);
            case 5:
                return now.sumOf(MASS);
            default:
                return BAD;
        }
    }

    private static boolean within(int v, int least, int most) {
        return v >= least && v <= most;
    }

    /** Beads, knocks, drag and tick: what an image holds and what a trial runs on. */
    private static final class Chain {
        int beads;
        int knocks;
        int drag;
        int tick;
        final int[] kind = new int[MOST_BEADS];
        final int[] rest = new int[MOST_BEADS];
        final int[] stiff = new int[MOST_BEADS];
        final int[] mass = new int[MOST_BEADS];
        final int[] place = new int[MOST_BEADS];
        final int[] speed = new int[MOST_BEADS];
        final int[] knockBead = new int[MOST_KNOCKS];
        final int[] knockBy = new int[MOST_KNOCKS];
        // One more than there are beads, for the 0 behind the last one.
        final int[] pull = new int[MOST_BEADS + 1];
        // Told of the moves since becomeLike() or since they were set to 0.
        int gone;
        int stops;
        // Told of the latest move alone.
        boolean stirred;

        void clear() {
            beads = 0;
            knocks = 0;
            drag = 0;
            tick = 0;
        }

        void becomeLike(Chain other) {
            beads = other.beads;
            knocks = other.knocks;
            drag = other.drag;
            tick = other.tick;
            gone = 0;
            stops = 0;
            for (int b = 0; b < MOST_BEADS; b++) {
                kind[b] = other.kind[b];
                rest[b] = other.rest[b];
                stiff[b] = other.stiff[b];
                mass[b] = other.mass[b];
                place[b] = other.place[b];
                speed[b] = other.speed[b];
            }
            for (int i = 0; i < MOST_KNOCKS; i++) {
                knockBead[i] = other.knockBead[i];
                knockBy[i] = other.knockBy[i];
            }
        }

        boolean has(int b) {
            return b >= 0 && b < beads;
        }

        int[] rowOf(int trait) {
            switch (trait) {
                case KIND:
                    return kind;
                case REST:
                    return rest;
                case STIFF:
                    return stiff;
                case MASS:
                    return mass;
                default:
                    return place;
            }
        }

        int sumOf(int trait) {
            int[] row = rowOf(trait);
            int sum = 0;
            for (int b = 0; b < beads; b++) {
                sum += row[b];
            }
            return sum;
        }

        int lastPlace() {
            return beads > 0 ? place[beads - 1] : 0;
        }

        int stillBits() {
            int bits = 0;
            for (int b = 0; b < beads; b++) {
                if (speed[b] == 0) {
                    bits |= 1 << b;
                }
            }
            return bits;
        }

        boolean addBead(int newKind, int newRest, int newStiff, int newMass) {
            if (beads >= MOST_BEADS) {
                return false;
            }
            int start = Math.min(FAR_END, lastPlace() + newRest);
            kind[beads] = newKind;
            rest[beads] = newRest;
            stiff[beads] = newStiff;
            mass[beads] = newMass;
            place[beads] = start;
            speed[beads] = 0;
            beads++;
            return true;
        }

        boolean addKnock(int b, int by) {
            if (knocks >= MOST_KNOCKS) {
                return false;
            }
            knockBead[knocks] = b;
            knockBy[knocks] = by;
            knocks++;
            return true;
        }

        void changePlaces(int i, int j) {
            int bead = knockBead[i];
            int by = knockBy[i];
            knockBead[i] = knockBead[j];
            knockBy[i] = knockBy[j];
            knockBead[j] = bead;
            knockBy[j] = by;
        }

        int stretchOf(int b) {
            int placeAhead = b > 0 ? place[b - 1] : 0;
            return place[b] - placeAhead - rest[b];
        }

        int pullOf(int b) {
            int stretch = stretchOf(b);
            boolean idle = false;
            switch (kind[b]) {
                case ROPE:
                    idle = stretch < 0;
                    break;
                case BLOCK:
                    idle = stretch > 0;
                    break;
                case SLACK:
                    idle = within(stretch, -SLACK_REACH, SLACK_REACH);
                    break;
                default:
                    break;
            }
            return idle ? 0 : stiff[b] * stretch;
        }

        void knockOnce(int b, int by) {
            if (has(b)) {
                speed[b] = inBounds(speed[b] + by);
            }
        }

        void knockByPlan() {
            if (knocks > 0) {
                int i = tick % knocks;
                knockOnce(knockBead[i], knockBy[i]);
            }
        }

        void tickOnce() {
            knockByPlan();
            move();
        }

        void tickOften(int n) {
            for (int i = 0; i < n; i++) {
                tickOnce();
            }
        }

        /** A tick but for its knock. */
        void move() {
            // All pulls come first: each is by where beads are before any of them goes.
            for (int b = 0; b < beads; b++) {
                pull[b] = pullOf(b);
            }
            pull[beads] = 0;
            stirred = false;
            for (int b = 0; b < beads; b++) {
                int weight = 10 * mass[b];
                int push = weight > 0 ? (pull[b + 1] - pull[b]) / weight : 0;
                goOn(b, inBounds(slowed(speed[b] + push)));
            }
            tick++;
        }

        private void goOn(int b, int newSpeed) {
            int aim = place[b] + newSpeed;
            int reached = Math.max(0, Math.min(FAR_END, aim));
            int left = reached == aim ? newSpeed : 0;
            if (reached != aim) {
                stops++;
            }
            if (reached != place[b] || left != speed[b]) {
                stirred = true;
            }
            gone += Math.abs(reached - place[b]);
            place[b] = reached;
            speed[b] = left;
        }

        private int slowed(int v) {
            return v > 0 ? Math.max(0, v - drag) : Math.min(0, v + drag);
        }

        private static int inBounds(int v) {
            return v > FASTEST ? FASTEST : v < -FASTEST ? -FASTEST : v;
        }

        /** The greatest swing behind any of n ticks; where it comes to enough, ticks end there. */
        int greatestSwing(int n, int enough) {
            int home = lastPlace();
            int greatest = 0;
            for (int i = 0; i < n && greatest < enough; i++) {
                tickOnce();
                greatest = Math.max(greatest, Math.abs(lastPlace() - home));
            }
            return greatest;
        }
    }

    /** The tape and what reads it. */
    private static final class Tape {
        private static final int ROOM = 160;
        private static final int NO_TOKEN = 0, NAME = 1, NUMBER = 2, SEMICOLON = 3, END = 4;
        // Words by number: those below DRAG_WORD are kinds of springs.
        private static final int DRAG_WORD = 4, ON_WORD = 5, BACK_WORD = 6, NO_WORD = 7;
        private static final int BAD_TOKEN = 1, OUT_OF_PLACE = 2, OUT_OF_BOUNDS = 3, SECOND_DRAG = 4, TOO_MANY = 5;

        final byte[] bytes = new byte[ROOM];
        int length;
        int fault;
        int faultPlace;
        // The token read last: its sort, its first byte, the byte behind it.
        private int token;
        private int from;
        private int behind;
        private boolean dragTold;

        boolean put(int c) {
            if (length >= ROOM) {
                return false;
            }
            bytes[length] = (byte) c;
            length++;
            return true;
        }

        /** How many lines; with a fault, told is free. */
        int tellInto(Chain told) {
            told.clear();
            fault = 0;
            faultPlace = 0;
            behind = 0;
            dragTold = false;
            int lines = 0;
            // A line has several bytes, so there are never as many lines as places.
            for (int i = 0; i <= ROOM; i++) {
                readToken();
                if (token == END) {
                    return lines;
                }
                takeLine(told);
                if (fault != 0) {
                    return lines;
                }
                lines++;
            }
            return lines;
        }

        /** Only the first fault counts: what is read behind it is read for nothing. */
        private void blame(int what) {
            if (fault == 0) {
                fault = what;
                faultPlace = from;
            }
        }

        private void takeLine(Chain told) {
            int word = token == NAME ? wordRead() : NO_WORD;
            if (word == NO_WORD) {
                blame(OUT_OF_PLACE);
            } else if (word == DRAG_WORD) {
                takeDrag(told);
            } else if (word == ON_WORD || word == BACK_WORD) {
                takeKnock(told, word == BACK_WORD);
            } else {
                takeBead(told, word);
            }
        }

        private void takeBead(Chain told, int kind) {
            if (told.beads >= MOST_BEADS) {
                blame(TOO_MANY);
            }
            int rest = takeNumber(LEAST[REST], MOST[REST]);
            int stiff = takeNumber(LEAST[STIFF], MOST[STIFF]);
            int mass = takeNumber(LEAST[MASS], MOST[MASS]);
            takeSemicolon();
            if (fault == 0) {
                told.addBead(kind, rest, stiff, mass);
            }
        }

        private void takeDrag(Chain told) {
            if (dragTold) {
                blame(SECOND_DRAG);
            }
            dragTold = true;
            int drag = takeNumber(0, MOST_DRAG);
            takeSemicolon();
            if (fault == 0) {
                told.drag = drag;
            }
        }

        private void takeKnock(Chain told, boolean isBack) {
            if (told.knocks >= MOST_KNOCKS) {
                blame(TOO_MANY);
            }
            int b = takeNumber(0, MOST_BEADS - 1);
            int by = takeNumber(0, HARDEST);
            takeSemicolon();
            if (fault == 0) {
                told.addKnock(b, isBack ? -by : by);
            }
        }

        private int takeNumber(int least, int most) {
            readToken();
            if (token != NUMBER) {
                blame(OUT_OF_PLACE);
                return least;
            }
            int number = numberRead();
            if (!within(number, least, most)) {
                blame(OUT_OF_BOUNDS);
            }
            return number;
        }

        private void takeSemicolon() {
            readToken();
            if (token != SEMICOLON) {
                blame(OUT_OF_PLACE);
            }
        }

        private void readToken() {
            from = behind;
            while (from < length && bytes[from] == ' ') {
                from++;
            }
            int letters = runOf('a', 'z');
            int figures = runOf('0', '9');
            behind = from + Math.max(1, letters + figures);
            if (from >= length) {
                token = END;
                behind = from;
            } else if (letters > 0) {
                token = NAME;
            } else if (figures > 0) {
                token = figures <= 2 ? NUMBER : NO_TOKEN;
            } else {
                token = bytes[from] == ';' ? SEMICOLON : NO_TOKEN;
            }
            if (token == NO_TOKEN) {
                blame(BAD_TOKEN);
            }
        }

        private int runOf(char first, char last) {
            int place = from;
            while (place < length && bytes[place] >= first && bytes[place] <= last) {
                place++;
            }
            return place - from;
        }

        private int numberRead() {
            int number = 0;
            for (int place = from; place < behind; place++) {
                number = 10 * number + bytes[place] - '0';
            }
            return number;
        }

        private int wordRead() {
            for (int word = 0; word < NO_WORD; word++) {
                if (isSpelt(wordOf(word))) {
                    return word;
                }
            }
            return NO_WORD;
        }

        private static String wordOf(int word) {
            switch (word) {
                case 0:
                    return "plain";
                case ROPE:
                    return "rope";
                case BLOCK:
                    return "block";
                case SLACK:
                    return "slack";
                case DRAG_WORD:
                    return "drag";
                case ON_WORD:
                    return "on";
                default:
                    return "back";
            }
        }

        private boolean isSpelt(String word) {
            if (behind - from != word.length()) {
                return false;
            }
            for (int i = 0; i < word.length(); i++) {
                if (bytes[from + i] != word.charAt(i)) {
                    return false;
                }
            }
            return true;
        }
    }

    /** Where beads were seen: behind how many ticks, which, at which place. */
    private static final class Seen {
        int count;
        private final int[] after = new int[MOST_SEEN];
        private final int[] bead = new int[MOST_SEEN];
        private final int[] place = new int[MOST_SEEN];

        boolean note(int n, int b, int v) {
            if (count >= MOST_SEEN) {
                return false;
            }
            after[count] = n;
            bead[count] = b;
            place[count] = v;
            count++;
            return true;
        }

        /** Runs the chain as far as the latest of what was seen. */
        boolean isSoOf(Chain chain) {
            int latest = latestTick();
            for (int t = 0; t <= latest; t++) {
                if (!agrees(chain, t)) {
                    return false;
                }
                chain.tickOnce();
            }
            return true;
        }

        private int latestTick() {
            int latest = -1;
            for (int i = 0; i < count; i++) {
                latest = Math.max(latest, after[i]);
            }
            return latest;
        }

        private boolean agrees(Chain chain, int t) {
            for (int i = 0; i < count; i++) {
                if (after[i] == t && !(chain.has(bead[i]) && chain.place[bead[i]] == place[i])) {
                    return false;
                }
            }
            return true;
        }
    }

    /** Rows of cells of a lane; the faults that a machine would find in their use are told, not thrown. */
    private static final class Sheets {
        private static final int NOTHING = -1, BYTES = 0, SHORTS = 1;

        final int[][] cells = new int[SHEETS][MOST_CELLS];
        final int[] size = {NOTHING, NOTHING, NOTHING, NOTHING};
        private final int[] laneOf = new int[SHEETS];

        boolean isNothing(int k) {
            return size[k] == NOTHING;
        }

        void make(int k, int lane, int n) {
            laneOf[k] = lane;
            size[k] = n;
            for (int i = 0; i < n; i++) {
                cells[k][i] = 0;
            }
        }

        void put(int k, int i, int v) {
            switch (laneOf[k]) {
                case BYTES:
                    cells[k][i] = (byte) v;
                    break;
                case SHORTS:
                    cells[k][i] = (short) v;
                    break;
                default:
                    cells[k][i] = v;
                    break;
            }
        }

        int faultAt(int k, int i) {
            if (isNothing(k)) {
                return NULL_FAULT;
            }
            return within(i, 0, size[k] - 1) ? 0 : INDEX_FAULT;
        }

        /** A machine lets nothing pass as of any lane, and finds it only where a cell is asked of it. */
        private int faultAs(int k, int lane) {
            return isNothing(k) || laneOf[k] == lane ? 0 : CAST_FAULT;
        }

        int faultOfPair(int k, int lane, int f, int pair) {
            int fault = faultAs(k, lane);
            if (fault == 0) {
                fault = faultAt(k, f);
            }
            // Once f is known to be a cell, what is counted from it can't wrap around.
            return fault != 0 ? fault : faultAt(k, f + 2 * pair + 1);
        }
    }
}
