/** Men with hats that they can't see, paid for saying rightly what their own is. */
public final class OtherHat {
    private static final int LOW = -1000000000;
    private static final int BEYOND = LOW - 1;
    private static final int NONE = LOW - 2;
    private static final int STATE = LOW - 3;
    private static final int FULL = LOW - 4;
    private static final int UNLIKE = LOW - 5;
    private static final int ERROR_KINDS = 5;

    private static final int MOST_MEN = 6;
    private static final int MOST_NUMBER = 9;
    private static final int MOST_FINE = 99;
    private static final int FIRST_FINE = 3;
    private static final int MOST_PAID = 99999;
    private static final int MOST_PAY = 999;
    private static final int LAST_BELL = 99;
    private static final int MOST_AHEAD = 30;
    private static final int NOT_AHEAD = MOST_AHEAD + 1;
    private static final int MOST_WAITING = 20;

    private static final int HASTY = 1;
    private static final int SLOW = 2;
    private static final int SILENT = 3;
    private static final int BOLD = 4;
    private static final int LAST = 5;
    private static final int BLIND = 6;
    private static final int KINDS = 7;
    /** The KIND above each KIND; MAN has none. */
    private static final int[] ABOVE = {-1, 0, 0, 0, 1, 2, 3};

    private static final int RULE = 0;
    private static final int PAYS = 1;
    private static final int MOST_BYTES = 50;
    private static final int WORD_BYTES = 8;

    private static final int SHEETS = 4;
    private static final int MOST_ON_SHEET = 40;
    private static final int MOST_TRACE = 40;
    private static final int ACTS = 4;

    private final Book now = new Book();
    private final Book kept = new Book();
    private final Scene ahead = new Scene();
    private final Reader reader = new Reader();
    private final Voices voices = new Voices();
    private final Sheet[] sheets = {new Sheet(), new Sheet(), new Sheet(), new Sheet()};
    private final int[] errors = new int[ERROR_KINDS + 1];
    private int images;

    public OtherHat() {
    }

    // ---- men

    public int man(int km) {
        if (!isKindWithNumber(km)) {
            return failed(BEYOND);
        }
        if (now.scene.open) {
            return failed(STATE);
        }
        if (now.scene.men >= MOST_MEN) {
            return failed(FULL);
        }
        return now.scene.addMan(km);
    }

    public int ofMan(int man, int what) {
        if (!isMan(man)) {
            return failed(BEYOND);
        }
        Scene scene = now.scene;
        switch (what) {
            case 0:
                return scene.kind[man];
            case 1:
                return scene.number[man];
            case 2:
                return bit(scene.world, man);
            case 3:
                return scene.sees[man];
            case 4:
                return scene.paid[man];
            default:
                return failed(BEYOND);
        }
    }

    public int tellMan(int man, int what, int v) {
        boolean fits = what == 2 ? v == 0 || v == 1
            : what == 3 && isWorld(v) && isMan(man) && bit(v, man) == 0;
        if (!isMan(man) || !fits) {
            return failed(BEYOND);
        }
        Scene scene = now.scene;
        if (scene.open) {
            return failed(STATE);
        }
        int was;
        if (what == 2) {
            was = bit(scene.world, man);
            scene.world = scene.world & ~(1 << man) | v << man;
        } else {
            was = scene.sees[man];
            scene.sees[man] = v;
        }
        return was;
    }

    public int become(int man, int km) {
        if (!isMan(man) || !isKindWithNumber(km)) {
            return failed(BEYOND);
        }
        int was = now.scene.kind[man];
        now.scene.kind[man] = km / 10;
        now.scene.number[man] = km % 10;
        return was;
    }

    public int as(int man, int kind) {
        if (!isMan(man) || kind < 0 || kind >= KINDS) {
            return failed(BEYOND);
        }
        if (!isOfKind(now.scene.kind[man], kind)) {
            return failed(UNLIKE);
        }
        return now.scene.number[man];
    }

    public int fine(int v) {
        if (v < 0 || v > MOST_FINE) {
            return failed(BEYOND);
        }
        int was = now.scene.fine;
        now.scene.fine = v;
        return was;
    }

    // ---- texts

    public int feed(long word, int n) {
        if (n < 1 || n > WORD_BYTES) {
            return failed(BEYOND);
        }
        if (now.tape.size > MOST_BYTES - n) {
            return failed(FULL);
        }
        for (int i = 0; i < n; i++) {
            now.tape.add((int) (word >>> (8 * i)) & 255);
        }
        return now.tape.size;
    }

    public int text(int use) {
        if (!isUse(use)) {
            return failed(BEYOND);
        }
        int fault = reader.faultOf(now.tape, use);
        now.tape.clear();
        if (fault >= 0) {
            return -10 - fault;
        }
        lawOf(use).code.take(reader.code);
        return 1;
    }

    public int law(int use, int a, int b, int c, int d) {
        if (!isUse(use)) {
            return failed(BEYOND);
        }
        return lawOf(use).gives(a, b, c, d);
    }

    // ---- the gate, bells

    public int open() {
        Scene scene = now.scene;
        if (scene.open) {
            return failed(STATE);
        }
        long given = scene.givenBy(now.rule);
        if (!holds(given, scene.world)) {
            return failed(STATE);
        }
        scene.open = true;
        scene.possible = given;
        scene.spoke = 0;
        scene.bell = 0;
        return Long.bitCount(given);
    }

    public int close() {
        if (!now.scene.open) {
            return failed(STATE);
        }
        now.scene.open = false;
        now.scene.possible = 0L;
        return Integer.bitCount(now.scene.spoke);
    }

    public int bells(int n) {
        int error = whyNoBells(n);
        if (error != 0) {
            return failed(error);
        }
        for (int i = 0; i < n; i++) {
            now.scene.ring(now.pays);
        }
        return now.scene.spoke;
    }

    public int loose(int n) {
        int error = whyNoBells(n);
        if (error != 0) {
            return failed(error);
        }
        for (int i = 0; i < n; i++) {
            now.ringLoosely();
        }
        return now.scene.spoke;
    }

    // ---- what is thought

    public int possible(int world) {
        if (!isWorld(world)) {
            return failed(BEYOND);
        }
        if (!now.scene.open) {
            return failed(STATE);
        }
        return holds(now.scene.possible, world) ? 1 : 0;
    }

    public int thinks(int man, int what) {
        if (!isMan(man) || what < 0 || what > 4) {
            return failed(BEYOND);
        }
        Scene scene = now.scene;
        if (!scene.open) {
            return failed(STATE);
        }
        long thought = scene.thought(man, scene.world);
        switch (what) {
            case 0:
                return blacks(man, thought);
            case 1:
                return whites(man, thought);
            case 2:
                return knows(man, thought) ? 1 : 0;
            case 3:
                return wouldSay(man, thought);
            default:
                return scene.speaks(man, thought) ? 1 : 0;
        }
    }

    public int then(int n, int what) {
        if (!isAhead(n) || what < 0 || what > 1) {
            return failed(BEYOND);
        }
        if (!now.scene.open) {
            return failed(STATE);
        }
        startAhead();
        ringAhead(n);
        return what == 0 ? ahead.spoke : Long.bitCount(ahead.possible);
    }

    public int thenPaid(int n, int man) {
        if (!isAhead(n) || !isMan(man)) {
            return failed(BEYOND);
        }
        if (!now.scene.open) {
            return failed(STATE);
        }
        startAhead();
        ringAhead(n);
        return ahead.paid[man];
    }

    public int when(int man) {
        if (!isMan(man)) {
            return failed(BEYOND);
        }
        if (!now.scene.open) {
            return failed(STATE);
        }
        startAhead();
        int bells = bellsTillSpoken(man);
        return bells > MOST_AHEAD ? failed(NONE) : bells;
    }

    public int silence(int man, int n) {
        if (!isMan(man) || !isAhead(n)) {
            return failed(BEYOND);
        }
        if (!now.scene.open) {
            return failed(STATE);
        }
        int others = ~(1 << man);
        startAhead();
        ringAhead(n);
        int asHeIs = Integer.bitCount(ahead.spoke & others);
        startAhead();
        ahead.kind[man] = SILENT;
        ringAhead(n);
        return asHeIs - Integer.bitCount(ahead.spoke & others);
    }

    public int trick(int n, int what) {
        if (!isAhead(n) || what < 0 || what > 1) {
            return failed(BEYOND);
        }
        if (!now.scene.open) {
            return failed(STATE);
        }
        int fewest = MOST_MEN + 1;
        int best = 0;
        long left = now.scene.possible;
        for (int world = 0; world < now.scene.worldCount(); world++) {
            if (holds(left, world)) {
                startAhead();
                ahead.world = world;
                ringAhead(n);
                int spoken = Integer.bitCount(ahead.spoke);
                if (spoken < fewest) {
                    fewest = spoken;
                    best = world;
                }
                left &= ~ranAlike();
            }
        }
        return what == 0 ? best : fewest;
    }

    public int longest() {
        if (!now.scene.open) {
            return failed(STATE);
        }
        int most = 0;
        long left = now.scene.possible;
        for (int world = 0; world < now.scene.worldCount(); world++) {
            if (holds(left, world)) {
                startAhead();
                ahead.world = world;
                most = Math.max(most, ringAhead(MOST_AHEAD));
                left &= ~ranAlike();
            }
        }
        return most;
    }

    public int signal(int man, int set) {
        if (!isMan(man) || (set & ~now.scene.sees[man]) != 0) {
            return failed(BEYOND);
        }
        if (!now.scene.open) {
            return failed(STATE);
        }
        return knowBySignal(set);
    }

    public int bestSignal(int man, int what) {
        if (!isMan(man) || what < 0 || what > 1) {
            return failed(BEYOND);
        }
        if (!now.scene.open) {
            return failed(STATE);
        }
        int most = -1;
        int best = 0;
        for (int set = 0; set < now.scene.worldCount(); set++) {
            if ((set & ~now.scene.sees[man]) == 0) {
                int knowing = knowBySignal(set);
                if (knowing > most) {
                    most = knowing;
                    best = set;
                }
            }
        }
        return what == 0 ? best : most;
    }

    public int look(int man) {
        if (!isMan(man)) {
            return failed(BEYOND);
        }
        if (!now.scene.open) {
            return failed(STATE);
        }
        int soonest = NOT_AHEAD;
        int best = -1;
        for (int other = 0; other < now.scene.men; other++) {
            if (other != man && bit(now.scene.sees[man], other) == 0) {
                startAhead();
                ahead.sees[man] |= 1 << other;
                int bells = bellsTillSpoken(man);
                if (bells < soonest) {
                    soonest = bells;
                    best = other;
                }
            }
        }
        return best < 0 ? failed(NONE) : best;
    }

    public long odds(int man, int part) {
        if (!isMan(man) || part < 0 || part > 1) {
            return failed(BEYOND);
        }
        if (!now.scene.open) {
            return failed(STATE);
        }
        long thought = now.scene.thought(man, now.scene.world);
        int black = blacks(man, thought);
        if (black == 0) {
            return part;
        }
        int all = Long.bitCount(thought);
        int common = commonDivisor(black, all);
        int whole = part == 0 ? black : all;
        return common == 0 ? whole : whole / common;
    }

    // ---- draws, voices, sheets, images, what is told

    public int seed(int v) {
        int was = now.z;
        now.z = v;
        return was;
    }

    public int voice(int man, int act, int x) {
        if (!isMan(man) || act < 0 || act >= ACTS) {
            return failed(BEYOND);
        }
        return voices.heard(now.scene, man, act, x);
    }

    public int trace(int i) {
        if (i < 0 || i >= voices.bodies.size) {
            return failed(NONE);
        }
        return voices.bodies.get(i);
    }

    public int sheet(int sheet, int bits, int n) {
        if (!isSheet(sheet) || bits != 0 && bits != 8 && bits != 16 && bits != 32) {
            return failed(BEYOND);
        }
        if (bits != 0 && n < 0) {
            return failed(STATE);
        }
        if (bits != 0 && n > MOST_ON_SHEET) {
            return failed(BEYOND);
        }
        sheets[sheet].renew(bits, bits == 0 ? 0 : n);
        return 1;
    }

    public int put(int sheet, int i, int v) {
        if (!isSheet(sheet)) {
            return failed(BEYOND);
        }
        if (sheets[sheet].bits == 0) {
            return failed(NONE);
        }
        if (i < 0 || i >= sheets[sheet].size) {
            return failed(BEYOND);
        }
        sheets[sheet].write(i, v);
        return 1;
    }

    public int move(int sheet, int i, int other, int j, int n) {
        if (!isSheet(sheet) || !isSheet(other)) {
            return failed(BEYOND);
        }
        Sheet from = sheets[sheet];
        Sheet to = sheets[other];
        if (from.bits == 0 || to.bits == 0) {
            return failed(NONE);
        }
        if (from.bits != to.bits) {
            return failed(UNLIKE);
        }
        if (!from.hasRun(i, n) || !to.hasRun(j, n)) {
            return failed(BEYOND);
        }
        System.arraycopy(from.items, i, to.items, j, n);
        return n;
    }

    public int worlds(int sheet) {
        if (!isSheet(sheet)) {
            return failed(BEYOND);
        }
        if (sheets[sheet].bits == 0) {
            return failed(NONE);
        }
        long left = now.scene.possible & sheets[sheet].asWorlds();
        if (!now.scene.open || !holds(left, now.scene.world)) {
            return failed(STATE);
        }
        now.scene.possible = left;
        return Long.bitCount(left);
    }

    public int image() {
        kept.take(now);
        images++;
        return images;
    }

    public int restore() {
        if (images == 0) {
            return failed(NONE);
        }
        now.take(kept);
        return now.scene.bell;
    }

    public int tell(int v) {
        if (now.waiting.size >= MOST_WAITING) {
            return failed(FULL);
        }
        now.waiting.add(v);
        return now.waiting.size;
    }

    public int check() {
        if (!now.scene.open) {
            now.waiting.clear();
            return failed(STATE);
        }
        int answer = 0;
        startAhead();
        for (int i = 0; i < now.waiting.size && answer == 0; i++) {
            ahead.ring(now.pays);
            if (now.waiting.get(i) != ahead.spoke) {
                answer = i + 1;
            }
        }
        now.waiting.clear();
        return answer;
    }

    public int count(int what) {
        switch (what) {
            case 0:
                return now.scene.men;
            case 1:
                return now.scene.open ? 1 : 0;
            case 2:
                return now.scene.bell;
            case 3:
                return now.scene.spoke;
            case 4:
                return Long.bitCount(now.scene.possible);
            case 5:
                return now.scene.fine;
            case 6:
                return now.tape.size;
            case 7:
                return now.waiting.size;
            case 8:
                return voices.bodies.size;
            case 9:
                return now.z;
            default:
                return failed(BEYOND);
        }
    }

    public int told(int k) {
        if (k < 1 || k > ERROR_KINDS) {
            return failed(BEYOND);
        }
        return errors[k];
    }

    // ---- what the calls share

    private int failed(int error) {
        int k = LOW - error;
        if (k >= 1 && k <= ERROR_KINDS) {
            errors[k]++;
        }
        return error;
    }

    private boolean isMan(int man) {
        return man >= 0 && man < now.scene.men;
    }

    private boolean isWorld(int set) {
        return set >= 0 && set < now.scene.worldCount();
    }

    private static boolean isKindWithNumber(int km) {
        return km >= 0 && km <= (KINDS - 1) * 10 + MOST_NUMBER;
    }

    private static boolean isUse(int use) {
        return use == RULE || use == PAYS;
    }

    private static boolean isAhead(int n) {
        return n >= 0 && n <= MOST_AHEAD;
    }

    private static boolean isSheet(int sheet) {
        return sheet >= 0 && sheet < SHEETS;
    }

    private static boolean isOfKind(int own, int kind) {
        int k = own;
        for (int steps = 0; steps < KINDS && k >= 0 && k < KINDS; steps++) {
            if (k == kind) {
                return true;
            }
            k = ABOVE[k];
        }
        return false;
    }

    private Law lawOf(int use) {
        return use == PAYS ? now.pays : now.rule;
    }

    /** 0, if so many BELLS may ring. */
    private int whyNoBells(int n) {
        if (n < 1 || n > MOST_AHEAD) {
            return BEYOND;
        }
        return !now.scene.open || now.scene.bell + n > LAST_BELL ? STATE : 0;
    }

    private void startAhead() {
        ahead.take(now.scene);
    }

    /** Answers behind how many of the BELLS somebody spoke last, 0 if nobody did. */
    private int ringAhead(int n) {
        int last = 0;
        for (int k = 1; k <= n; k++) {
            int spokeBefore = ahead.spoke;
            boolean changed = ahead.ring(now.pays);
            if (ahead.spoke != spokeBefore) {
                last = k;
            }
            if (!changed && ahead.isPastAllNumbers()) {
                break;
            }
        }
        return last;
    }

    private int bellsTillSpoken(int man) {
        for (int k = 0; k <= MOST_AHEAD; k++) {
            if (bit(ahead.spoke, man) == 1) {
                return k;
            }
            if (!ahead.ring(now.pays) && ahead.isPastAllNumbers()) {
                break;
            }
        }
        return NOT_AHEAD;
    }

    /**
     * WORLDS that are POSSIBLE still, AHEAD, were alike in all that was said: with each of them as
     * THE WORLD all would have gone the same way, so none of them needs a run of its own.
     */
    private long ranAlike() {
        return ahead.possible;
    }

    private int knowBySignal(int set) {
        Scene scene = now.scene;
        int odd = Integer.bitCount(scene.world & set) & 1;
        long left = 0L;
        for (int world = 0; world < scene.worldCount(); world++) {
            if ((Integer.bitCount(world & set) & 1) == odd) {
                left |= 1L << world;
            }
        }
        int knowing = 0;
        for (int i = 0; i < scene.men; i++) {
            if (knows(i, scene.thought(i, scene.world) & left)) {
                knowing++;
            }
        }
        return knowing;
    }

    private static int commonDivisor(int a, int b) {
        int x = a;
        int y = b;
        // Sixty-four halvings are more than two ints can need.
        for (int steps = 0; steps < 64 && y != 0; steps++) {
            int rest = x % y;
            x = y;
            y = rest;
        }
        return x;
    }

    private static int bit(int set, int i) {
        return set >> i & 1;
    }

    private static int held(int v, int low, int high) {
        return Math.max(low, Math.min(high, v));
    }

    // ---- sets of WORLDS: bit w of a long stands for WORLD w

    /** For each MAN the WORLDS that give him a black HAT. */
    private static final long[] BLACK_FOR = {
        0xAAAAAAAAAAAAAAAAL, 0xCCCCCCCCCCCCCCCCL, 0xF0F0F0F0F0F0F0F0L,
        0xFF00FF00FF00FF00L, 0xFFFF0000FFFF0000L, 0xFFFFFFFF00000000L
    };

    private static boolean holds(long worlds, int world) {
        return (worlds >>> world & 1L) == 1L;
    }

    private static int blacks(int man, long worlds) {
        return man < 0 || man >= MOST_MEN ? 0 : Long.bitCount(worlds & BLACK_FOR[man]);
    }

    private static int whites(int man, long worlds) {
        return man < 0 || man >= MOST_MEN ? 0 : Long.bitCount(worlds & ~BLACK_FOR[man]);
    }

    private static boolean knows(int man, long worlds) {
        return man < 0 || man >= MOST_MEN
            || (worlds & BLACK_FOR[man]) == 0L || (worlds & ~BLACK_FOR[man]) == 0L;
    }

    private static int wouldSay(int man, long worlds) {
        return blacks(man, worlds) >= whites(man, worlds) ? 1 : 0;
    }

    /**
     * The WORLDS that give all MEN of a set white HATS. Moved up by what one WORLD has in the set,
     * they are those that are like it there.
     */
    private static long allWhite(int seen) {
        long worlds = -1L;
        for (int i = 0; i < MOST_MEN; i++) {
            if (bit(seen, i) == 1) {
                worlds &= ~BLACK_FOR[i];
            }
        }
        return worlds;
    }

    /** MEN, THE GATE and its BELLS, as they are or as they would be AHEAD. */
    private static final class Scene {
        private int men;
        private final int[] kind = new int[MOST_MEN];
        private final int[] number = new int[MOST_MEN];
        private final int[] sees = new int[MOST_MEN];
        private final int[] paid = new int[MOST_MEN];
        private int world;
        private int fine = FIRST_FINE;
        private boolean open;
        private long possible;
        private int spoke;
        private int bell;

        private void take(Scene other) {
            men = other.men;
            for (int i = 0; i < MOST_MEN; i++) {
                kind[i] = other.kind[i];
                number[i] = other.number[i];
                sees[i] = other.sees[i];
                paid[i] = other.paid[i];
            }
            world = other.world;
            fine = other.fine;
            open = other.open;
            possible = other.possible;
            spoke = other.spoke;
            bell = other.bell;
        }

        private int worldCount() {
            return 1 << men;
        }

        /** Only where fewer than MOST_MEN are there. */
        private int addMan(int km) {
            int man = Math.min(men, MOST_MEN - 1);
            for (int i = 0; i < man; i++) {
                sees[i] |= 1 << man;
            }
            kind[man] = km / 10;
            number[man] = km % 10;
            sees[man] = (1 << man) - 1;
            men = man + 1;
            return man;
        }

        private long givenBy(Law rule) {
            long given = 0L;
            for (int w = 0; w < worldCount(); w++) {
                int first = w & 1;
                int last = men == 0 ? 0 : bit(w, men - 1);
                if (rule.gives(Integer.bitCount(w), men, first, last) != 0) {
                    given |= 1L << w;
                }
            }
            return given;
        }

        /** WHAT ONE THINKS in a WORLD. */
        private long thought(int man, int inWorld) {
            if (man < 0 || man >= MOST_MEN) {
                return 0L;
            }
            return possible & allWhite(sees[man]) << (inWorld & sees[man]);
        }

        private boolean hasSpoken(int man) {
            return bit(spoke, man) == 1;
        }

        private boolean speaks(int man, long thought) {
            if (man < 0 || man >= MOST_MEN || hasSpoken(man)) {
                return false;
            }
            int m = number[man];
            switch (kind[man]) {
                case HASTY:
                    return isSure(man, thought);
                case SLOW:
                    return bell >= m && knows(man, thought);
                case SILENT:
                    return false;
                case BOLD:
                    return bell >= m || isSure(man, thought);
                case LAST:
                    return bell >= m && (sees[man] & ~spoke) == 0 && knows(man, thought);
                case BLIND:
                    return knows(man, possible);
                default:
                    return knows(man, thought);
            }
        }

        /** Whether a HASTY one dares to speak. */
        private boolean isSure(int man, long thought) {
            if (man < 0 || man >= MOST_MEN) {
                return false;
            }
            int black = Long.bitCount(thought & BLACK_FOR[man]);
            int white = Long.bitCount(thought) - black;
            int m = number[man];
            return black == 0 || white == 0 || black > m * white || white > m * black;
        }

        private int speakers() {
            int speakers = 0;
            for (int i = 0; i < men; i++) {
                if (speaks(i, thought(i, world))) {
                    speakers |= 1 << i;
                }
            }
            return speakers;
        }

        /** Those of the speakers that WOULD SAY black. */
        private int sayings(int speakers) {
            int black = 0;
            for (int i = 0; i < men; i++) {
                if (bit(speakers, i) == 1) {
                    black |= wouldSay(i, thought(i, world)) << i;
                }
            }
            return black;
        }

        /** Answers whether anything but BELL has changed. */
        private boolean ring(Law pays) {
            int speakers = speakers();
            return hear(speakers, sayings(speakers), pays);
        }

        /** A BELL at which these speak, and of them these say black; answers as ring does. */
        private boolean hear(int speakers, int black, Law pays) {
            long left = possible;
            for (int i = 0; i < men; i++) {
                if (!hasSpoken(i)) {
                    left = fitting(i, left, bit(speakers, i) == 1, bit(black, i));
                }
            }
            payAll(speakers, black, pays);
            boolean changed = speakers != 0 || left != 0L && left != possible;
            if (left != 0L) {
                possible = left;
            }
            spoke |= speakers;
            bell++;
            return changed;
        }

        /** Those of some POSSIBLE WORLDS in which a MAN speaks or not, and says, as he did. */
        private long fitting(int man, long worlds, boolean spoken, int said) {
            int seen = man < 0 || man >= MOST_MEN ? 0 : sees[man];
            long white = allWhite(seen);
            long fit = 0L;
            long left = worlds;
            for (int w = 0; w < worldCount() && left != 0L; w++) {
                if (holds(left, w)) {
                    long thought = possible & white << (w & seen);
                    boolean would = speaks(man, thought);
                    if (would == spoken && (!spoken || wouldSay(man, thought) == said)) {
                        fit |= thought & worlds;
                    }
                    // In all that he thinks in one of them he thinks the same.
                    left &= ~thought;
                }
            }
            return fit;
        }

        private void payAll(int speakers, int black, Law pays) {
            int together = Integer.bitCount(speakers);
            for (int i = 0; i < men; i++) {
                if (bit(speakers, i) == 1) {
                    int hat = bit(world, i);
                    int more = bit(black, i) == hat ? pays.gives(hat, bell, together, 0) : -fine;
                    paid[i] = held(paid[i] + more, -MOST_PAID, MOST_PAID);
                }
            }
        }

        /**
         * Whether the BELL that rang was one that every m lets speak: if nothing changed by it,
         * nothing ever will.
         */
        private boolean isPastAllNumbers() {
            return bell > MOST_NUMBER;
        }
    }

    /** All that an IMAGE keeps. */
    private static final class Book {
        private final Scene scene = new Scene();
        private final Law rule = new Law(RULE);
        private final Law pays = new Law(PAYS);
        private final Row tape = new Row(MOST_BYTES);
        private final Row waiting = new Row(MOST_WAITING);
        private int z = 1;

        private void take(Book other) {
            scene.take(other.scene);
            rule.code.take(other.rule.code);
            pays.code.take(other.pays.code);
            tape.take(other.tape);
            waiting.take(other.waiting);
            z = other.z;
        }

        private int drawn() {
            z = z * 1103515245 + 12345;
            return z >>> 8;
        }

        private void ringLoosely() {
            int speakers = scene.speakers();
            int black = scene.sayings(speakers);
            for (int i = 0; i < scene.men; i++) {
                if (bit(speakers, i) == 1 && drawn() % 8 == 0) {
                    black ^= 1 << i;
                }
            }
            scene.hear(speakers, black, pays);
        }
    }

    /** Some ints in a row, no more than it was made for. */
    private static final class Row {
        private final int[] items;
        private int size;

        private Row(int most) {
            items = new int[Math.max(0, most)];
        }

        private void add(int v) {
            if (size < items.length) {
                items[size] = v;
                size++;
            }
        }

        /** 0, where there is none. */
        private int get(int i) {
            return i >= 0 && i < size && i < items.length ? items[i] : 0;
        }

        private void clear() {
            size = 0;
        }

        private void take(Row other) {
            clear();
            for (int i = 0; i < other.size; i++) {
                add(other.get(i));
            }
        }
    }

    /**
     * The TEXT of a USE, worked out with its operands ahead of each sign: so it is read once, not
     * for each WORLD.
     */
    private static final class Law {
        /** From here on codes are signs; below they are numbers. */
        private static final int SIGN = 10000;
        /** From here on codes are NAMES. */
        private static final int NAME = 20000;

        private final int use;
        /** Empty as long as there is no TEXT. */
        private final Row code = new Row(MOST_BYTES);
        private final int[] stack = new int[MOST_BYTES];

        private Law(int use) {
            this.use = use;
        }

        private int gives(int a, int b, int c, int d) {
            if (use == RULE) {
                return code.size == 0 ? 1 : workedOut(a, b, c, d);
            }
            int pay = code.size == 0 ? a * 10 + 5 - b : workedOut(a, b, c, d);
            return held(pay, 0, MOST_PAY);
        }

        private int workedOut(int a, int b, int c, int d) {
            int height = 0;
            for (int i = 0; i < code.size; i++) {
                int item = code.get(i);
                if (item < SIGN || item >= NAME) {
                    if (height >= stack.length) {
                        return 0;
                    }
                    stack[height] = item < SIGN ? item : named(item - NAME, a, b, c, d);
                    height++;
                } else if (item == SIGN + '!') {
                    if (height < 1) {
                        return 0;
                    }
                    stack[height - 1] = stack[height - 1] == 0 ? 1 : 0;
                } else {
                    if (height < 2) {
                        return 0;
                    }
                    height--;
                    stack[height - 1] = joined(item - SIGN, stack[height - 1], stack[height]);
                }
            }
            return height < 1 ? 0 : stack[0];
        }

        private static int named(int name, int a, int b, int c, int d) {
            switch (name) {
                case 0:
                    return a;
                case 1:
                    return b;
                case 2:
                    return c;
                default:
                    return d;
            }
        }

        private static int joined(int sign, int left, int right) {
            switch (sign) {
                case '|':
                    return left != 0 || right != 0 ? 1 : 0;
                case '&':
                    return left != 0 && right != 0 ? 1 : 0;
                case '<':
                    return left < right ? 1 : 0;
                case '=':
                    return left == right ? 1 : 0;
                case '>':
                    return left > right ? 1 : 0;
                case '+':
                    return left + right;
                case '-':
                    return left - right;
                case '*':
                    return left * right;
                case '/':
                    return right == 0 ? 0 : left / right;
                case '%':
                    return right == 0 ? 0 : left % right;
                default:
                    return 0;
            }
        }
    }

    /** Reads a TEXT into the code of a Law. */
    private static final class Reader {
        private static final int OR = 0;
        private static final int AND = 1;
        private static final int COMPARE = 2;
        private static final int SUM = 3;
        private static final int PRODUCT = 4;
        private static final int UNIT = 5;
        private static final int MOST_OPEN = 5;
        private static final int MOST_DIGITS = 4;

        private final Row code = new Row(MOST_BYTES);
        private final Row bytes = new Row(MOST_BYTES);
        private String names = "";
        private int at;

        /** -1, if it is a TEXT. */
        private int faultOf(Row tape, int use) {
            bytes.take(tape);
            names = use == RULE ? "bnfl" : "htc";
            at = 0;
            code.clear();
            return readLevel(OR, 0) && at == bytes.size ? -1 : at;
        }

        /** Each of these answers whether it was there; if not, the fault is where it stopped. */
        private boolean readLevel(int level, int opened) {
            if (level >= UNIT) {
                return readUnit(opened);
            }
            if (!readLevel(level + 1, opened)) {
                return false;
            }
            int most = level == COMPARE ? 1 : MOST_BYTES;
            for (int i = 0; i < most && isSignOf(level, next()); i++) {
                int sign = next();
                at++;
                if (!readLevel(level + 1, opened)) {
                    return false;
                }
                code.add(Law.SIGN + sign);
            }
            return true;
        }

        private boolean readUnit(int opened) {
            int first = next();
            if (isDigit(first)) {
                readNumber();
                return true;
            }
            if (first == '!' || first == '(') {
                if (opened >= MOST_OPEN) {
                    return false;
                }
                at++;
                return first == '!' ? readNot(opened + 1) : readInside(opened + 1);
            }
            int name = first < 0 ? -1 : names.indexOf((char) first);
            if (name < 0) {
                return false;
            }
            at++;
            code.add(Law.NAME + name);
            return true;
        }

        private boolean readNot(int opened) {
            boolean there = readUnit(opened);
            code.add(Law.SIGN + '!');
            return there;
        }

        private boolean readInside(int opened) {
            if (!readLevel(OR, opened) || next() != ')') {
                return false;
            }
            at++;
            return true;
        }

        private void readNumber() {
            int number = 0;
            for (int i = 0; i < MOST_DIGITS && isDigit(next()); i++) {
                number = number * 10 + next() - '0';
                at++;
            }
            code.add(number);
        }

        /** -1 behind the last. */
        private int next() {
            return at < bytes.size ? bytes.get(at) : -1;
        }

        private static boolean isDigit(int sign) {
            return sign >= '0' && sign <= '9';
        }

        private static boolean isSignOf(int level, int sign) {
            switch (level) {
                case OR:
                    return sign == '|';
                case AND:
                    return sign == '&';
                case COMPARE:
                    return sign == '<' || sign == '=' || sign == '>';
                case SUM:
                    return sign == '+' || sign == '-';
                case PRODUCT:
                    return sign == '*' || sign == '/' || sign == '%';
                default:
                    return false;
            }
        }
    }

    /** VOICES, and THE TRACE of the latest. */
    private static final class Voices {
        private static final int LOOKS = 0;
        private static final int THINKS = 1;
        private static final int SAYS = 2;
        private static final int TELLS = 3;
        /** A BODY calls at most four more, one within the other. */
        private static final int DEEPEST = 12;
        /** The BODY of each KIND for each act; 0, where it has none of its own. */
        private static final int[] OWN = {
            10, 11, 12, 13,
            0, 20, 0, 0,
            30, 0, 0, 0,
            0, 0, 40, 0,
            0, 50, 0, 0,
            0, 0, 0, 60,
            0, 0, 70, 71
        };

        private final Row bodies = new Row(MOST_TRACE);
        private int kind;
        private int n;
        private int m;

        private int heard(Scene scene, int man, int act, int x) {
            if (man < 0 || man >= MOST_MEN) {
                return 0;
            }
            kind = scene.kind[man];
            n = man;
            m = scene.number[man];
            bodies.clear();
            return own(act, x, 0);
        }

        private int own(int act, int x, int depth) {
            return from(kind, act, x, depth);
        }

        /** The BODY of a KIND, or of the next above that has one. */
        private int from(int first, int act, int x, int depth) {
            if (depth > DEEPEST) {
                return 0;
            }
            int k = first;
            for (int steps = 0; steps < KINDS && k >= 0 && k < KINDS; steps++) {
                int body = OWN[k * ACTS + act];
                if (body != 0) {
                    bodies.add(body);
                    return workedOut(body, x, depth + 1);
                }
                k = ABOVE[k];
            }
            return 0;
        }

        private int workedOut(int body, int x, int depth) {
            switch (body) {
                case 10:
                    return x + n;
                case 11:
                    return own(LOOKS, x, depth) * 2;
                case 12:
                    return x - m;
                case 13:
                    return own(THINKS, x, depth) ^ own(SAYS, x, depth);
                case 20:
                    return from(ABOVE[HASTY], THINKS, x, depth) - own(SAYS, 1, depth);
                case 30:
                    return from(ABOVE[SLOW], LOOKS, x, depth) * 3;
                case 40:
                    return -from(ABOVE[SILENT], SAYS, x, depth);
                case 50:
                    return from(ABOVE[BOLD], THINKS, x + 1, depth);
                case 60:
                    return from(ABOVE[LAST], TELLS, x, depth) - own(LOOKS, 2, depth);
                case 70:
                    return from(ABOVE[BLIND], SAYS, x, depth) ^ n;
                case 71:
                    return own(THINKS, x, depth) - from(ABOVE[BLIND], TELLS, x, depth);
                default:
                    return 0;
            }
        }
    }

    /** Numbers of so many bits; it is missing, if that is 0. */
    private static final class Sheet {
        private int bits;
        private int size;
        private final int[] items = new int[MOST_ON_SHEET];

        private void renew(int newBits, int n) {
            bits = newBits;
            size = held(n, 0, MOST_ON_SHEET);
            for (int i = 0; i < MOST_ON_SHEET; i++) {
                items[i] = 0;
            }
        }

        private void write(int i, int v) {
            if (i >= 0 && i < size) {
                items[i] = bits == 8 ? (byte) v : bits == 16 ? (short) v : v;
            }
        }

        private boolean hasRun(int i, int n) {
            return n >= 0 && i >= 0 && n <= size && i <= size - n;
        }

        /** Its numbers that can be WORLDS at all, as a set of these. */
        private long asWorlds() {
            long worlds = 0L;
            for (int i = 0; i < size; i++) {
                if (items[i] >= 0 && items[i] < 64) {
                    worlds |= 1L << items[i];
                }
            }
            return worlds;
        }
    }
}
