/**
 * A skipping rope, those who jump over it, what happens tick by tick, and what will happen.
 *
 * Nothing is made after the constructor: every look ahead is played on one trial scene that is used again.
 */
public final class SkipRope {
    public static final int BAD = -1, STATE = -2, FULL = -3, NONE = -9;
    public static final int NO = -1000000;

    private static final int MOST_LETTERS = 120;
    private static final int MOST_LETTER = 255;
    private static final int MOST_NUMBER = 99;
    private static final int FAULT_BASE = -10;

    private static final int MOST_JUMPERS = 6;
    private static final int LEAST_EVERY = 2;
    private static final int MOST_EVERY = 9;
    private static final int FIRST_EVERY = 4;
    private static final int LATEST_DUE = 11;

    private static final int LAST_TICK = 999;
    private static final int MOST_UNDONE = 10;
    private static final int IMAGES = 2;

    private static final int FAR = 120;
    private static final int FAR_ODDS = 60;
    private static final int WHOLE = 10;

    private static final int MOST_SEEN = 6;
    private static final int LEAST_HANG = 1;
    private static final int MOST_HANG = 4;
    private static final int LATEST_SEEN = 40;
    private static final int LEAST_PERIOD = 2;
    private static final int MOST_PERIOD = 12;
    private static final int LATEST_START = 11;
    private static final int ALL_WAYS = 132;
    private static final int PERIOD_PLACE = 100;

    private final Text text = new Text();
    private Crew crew = new Crew();
    private Crew draft = new Crew();
    private final Scene scene = new Scene();
    private final Scene trial = new Scene();
    private final Past past = new Past();
    private final Scene[] images = {new Scene(), new Scene()};
    private final boolean[] kept = new boolean[IMAGES];
    private final Sight sight = new Sight();
    private final JumperKind[] kinds = {
        new JumperKind(), new BouncerKind(), new HopperKind(),
        new CrossKind(), new PepperKind(), new DoubleKind(),
    };
    private long asked;

    public SkipRope() {
        scene.open(crew);
    }

    // ---- the yard

    public int type(int letter) {
        if (letter < 0 || letter > MOST_LETTER) {
            return BAD;
        }
        if (text.length >= MOST_LETTERS) {
            return FULL;
        }
        text.letters[text.length] = letter;
        text.length++;
        return text.length;
    }

    public int clear() {
        int had = text.length;
        text.length = 0;
        return had;
    }

    public int yard() {
        int fault = text.readInto(draft);
        if (fault != NONE) {
            return FAULT_BASE - fault;
        }
        text.length = 0;
        Crew old = crew;
        crew = draft;
        draft = old;
        scene.open(crew);
        past.size = 0;
        sight.size = 0;
        for (int i = 0; i < IMAGES; i++) {
            kept[i] = false;
        }
        return text.items;
    }

    public int jumper(int j, int what) {
        if (isNobody(j)) {
            return BAD;
        }
        switch (what) {
            case 0: return crew.period[j];
            case 1: return crew.hang[j];
            case 2: return scene.wind[j];
            case 3: return scene.holds(j) ? 1 : 0;
            case 4: return scene.up[j];
            case 5: return scene.holds(j) ? scene.due[j] : NONE;
            case 6: return tripNow(j);
            default: return BAD;
        }
    }

    public int now(int what) {
        switch (what) {
            case 0: return scene.tick;
            case 1: return scene.every;
            case 2: return scene.round;
            case 3: return scene.inside;
            case 4: return playTillFirst();
            case 5: return firstOnes();
            case 6: return past.size;
            default: return BAD;
        }
    }

    // ---- what is done

    public int ticks() {
        if (scene.tick >= LAST_TICK) {
            return STATE;
        }
        past.push(scene);
        return scene.step(crew);
    }

    public int speeds(int every) {
        if (every < LEAST_EVERY || every > MOST_EVERY) {
            return BAD;
        }
        int before = scene.every;
        if (every == before) {
            return STATE;
        }
        past.push(scene);
        scene.turn(every);
        return before;
    }

    public int goes(int j) {
        if (isNobody(j)) {
            return BAD;
        }
        if (!scene.holds(j)) {
            return STATE;
        }
        past.push(scene);
        scene.leave(j);
        return Integer.bitCount(scene.inside);
    }

    public int comes(int j, int d) {
        if (isNobody(j) || d < 0 || d > LATEST_DUE) {
            return BAD;
        }
        if (scene.holds(j)) {
            return STATE;
        }
        past.push(scene);
        scene.enter(j, d);
        return Integer.bitCount(scene.inside);
    }

    public int undo() {
        if (past.size <= 0) {
            return STATE;
        }
        past.popInto(scene);
        return past.size;
    }

    // ---- what comes, what is best

    public int stay(int n) {
        if (n < 0 || n > FAR) {
            return BAD;
        }
        trial.become(scene);
        playOn(n);
        return trial.inside;
    }

    public int pace(int n) {
        if (n < 0 || n > FAR) {
            return BAD;
        }
        int best = LEAST_EVERY;
        int most = -1;
        for (int every = LEAST_EVERY; every <= MOST_EVERY; every++) {
            trial.become(scene);
            trial.turn(every);
            playOn(n);
            int left = Integer.bitCount(trial.inside);
            if (left > most) {
                most = left;
                best = every;
            }
        }
        return best;
    }

    public int entry(int j) {
        if (isNobody(j)) {
            return BAD;
        }
        if (scene.holds(j)) {
            return STATE;
        }
        int best = 0;
        int latest = 0;
        for (int d = 0; d <= LATEST_DUE; d++) {
            trial.become(scene);
            trial.enter(j, d);
            int trip = playTillOut(j);
            int lasts = trip == NONE ? FAR + 1 : trip;
            if (lasts > latest) {
                latest = lasts;
                best = d;
            }
        }
        return best;
    }

    public int odds(int x, int n, int what) {
        if (x < 0 || x > WHOLE || n < 0 || n > FAR_ODDS || what < 0 || what > 1) {
            return BAD;
        }
        int upper = 1;
        int lower = 1;
        for (int j = 0; j < crew.size; j++) {
            if (scene.holds(j)) {
                upper *= tenthsThatStay(j, x, n);
                lower *= WHOLE;
            }
        }
        int common = commonDivisor(upper, lower);
        if (common <= 0) {
            return BAD;
        }
        return what == 0 ? upper / common : lower / common;
    }

    // ---- how one jumps

    public int sees(int hang, int t, int up) {
        if (isNoHang(hang) || t < 0 || t > LATEST_SEEN || up < 0 || up > 1) {
            return BAD;
        }
        if (sight.size >= MOST_SEEN) {
            return FULL;
        }
        sight.add(hang, t, up == 1);
        return sight.size;
    }

    public int forget() {
        int was = sight.size;
        sight.size = 0;
        return was;
    }

    public int ways(int what) {
        if (what < 0 || what > 1) {
            return BAD;
        }
        sight.gather();
        if (what == 0) {
            return sight.found;
        }
        return sight.found == 0 ? NONE : PERIOD_PLACE * sight.periods[0] + sight.starts[0];
    }

    public int look(int hang) {
        if (isNoHang(hang)) {
            return BAD;
        }
        sight.gather();
        return sight.found <= 1 ? NONE : sight.bestTick(hang);
    }

    // ---- kinds, images

    public int rate(int kind, int j) {
        if (kind < 0 || kind >= kinds.length || isNobody(j)) {
            return NO;
        }
        JumperKind body = kinds[kind];
        return body == null ? NO : body.worth(this, j);
    }

    public int keep(int image) {
        if (isNoImage(image)) {
            return BAD;
        }
        images[image].become(scene);
        kept[image] = true;
        return scene.tick;
    }

    public int back(int image) {
        if (isNoImage(image)) {
            return BAD;
        }
        if (!kept[image]) {
            return STATE;
        }
        scene.become(images[image]);
        past.size = 0;
        return scene.tick;
    }

    public int count(int what) {
        switch (what) {
            case 0: return crew.size;
            case 1: return sight.size;
            case 2: return text.length;
            default: return BAD;
        }
    }

    public long trace() {
        return asked;
    }

    // ---- what the calls share

    private boolean isNobody(int j) {
        return j < 0 || j >= crew.size;
    }

    private static boolean isNoHang(int hang) {
        return hang < LEAST_HANG || hang > MOST_HANG;
    }

    private boolean isNoImage(int image) {
        return image < 0 || image >= images.length || images[image] == null;
    }

    private void playOn(int n) {
        for (int i = 0; i < n; i++) {
            trial.step(crew);
        }
    }

    private int playTillOut(int j) {
        for (int n = 1; n <= FAR; n++) {
            trial.step(crew);
            if (!trial.holds(j)) {
                return n;
            }
        }
        return NONE;
    }

    private int tripNow(int j) {
        if (!scene.holds(j)) {
            return NONE;
        }
        trial.become(scene);
        return playTillOut(j);
    }

    private int playTillFirst() {
        trial.become(scene);
        for (int n = 1; n <= FAR; n++) {
            if (trial.step(crew) != 0) {
                return n;
            }
        }
        return NONE;
    }

    private int firstOnes() {
        playTillFirst();
        return scene.inside & ~trial.inside;
    }

    /**
     * Of ten cases, in how many this one stays. Each may be played alone, though one who trips delays the rope:
     * up to the first trip nobody has any effect on another, and behind it the whole case is lost.
     */
    private int tenthsThatStay(int j, int x, int n) {
        int tenths = 0;
        if (staysAlone(j, 0, n)) {
            tenths += WHOLE - x;
        }
        // A missed jump costs no wind, so it is the same as being due one period later.
        if (staysAlone(j, crew.period[j], n)) {
            tenths += x;
        }
        return tenths;
    }

    private boolean staysAlone(int j, int delay, int n) {
        trial.become(scene);
        trial.inside = 1 << j;
        trial.due[j] += delay;
        playOn(n);
        return trial.holds(j);
    }

    private static int commonDivisor(int upper, int lower) {
        int a = upper;
        int b = lower;
        for (int turns = 0; turns < 64 && b != 0; turns++) {
            int rest = a % b;
            a = b;
            b = rest;
        }
        return a;
    }

    /** What the text told of the rope and of each jumper; it does not change while they jump. */
    private static final class Crew {
        int every = FIRST_EVERY;
        int size;
        final int[] period = new int[MOST_JUMPERS];
        final int[] hang = new int[MOST_JUMPERS];
        final int[] start = new int[MOST_JUMPERS];
        final int[] wind = new int[MOST_JUMPERS];

        void reset() {
            every = FIRST_EVERY;
            size = 0;
        }

        void add(int itsPeriod, int itsHang, int itsStart, int itsWind) {
            if (size >= MOST_JUMPERS) {
                return;
            }
            period[size] = itsPeriod;
            hang[size] = itsHang;
            start[size] = itsStart;
            wind[size] = itsWind;
            size++;
        }
    }

    /** The text, and its reader, which goes token by token up to the first one that can't stand there. */
    private static final class Text {
        private static final int END = 0;
        private static final int NUMBER = 1;
        private static final int WRONG = 2;
        private static final int PARTS = 4;
        // Of a jumper's period, hang, start and wind, in the order of the text.
        private static final int[] LEAST = {2, 1, 0, 1};
        private static final int[] MOST = {12, 4, 11, 60};

        final int[] letters = new int[MOST_LETTERS];
        final int[] parts = new int[PARTS];
        int length;
        int items;
        private int place;
        private int start;
        private int token;
        private int value;

        /** The place of the fault, or NONE. */
        int readInto(Crew draft) {
            draft.reset();
            items = 0;
            place = 0;
            boolean everyTold = false;
            for (int turns = 0; turns <= MOST_LETTERS; turns++) {
                advance();
                if (token == END) {
                    return NONE;
                }
                boolean stands = false;
                if (token == 'e' && !everyTold) {
                    everyTold = true;
                    stands = readEvery(draft);
                } else if (token == 'j' && draft.size < MOST_JUMPERS) {
                    stands = readJumper(draft);
                }
                if (!stands) {
                    return start;
                }
                items++;
            }
            return start;
        }

        private boolean readEvery(Crew draft) {
            if (!readNumber(LEAST_EVERY, MOST_EVERY)) {
                return false;
            }
            draft.every = value;
            return readStop();
        }

        private boolean readJumper(Crew draft) {
            for (int i = 0; i < PARTS; i++) {
                if (!readNumber(LEAST[i], MOST[i])) {
                    return false;
                }
                parts[i] = value;
            }
            draft.add(parts[0], parts[1], parts[2], parts[3]);
            return readStop();
        }

        private boolean readNumber(int least, int most) {
            advance();
            return token == NUMBER && value >= least && value <= most;
        }

        private boolean readStop() {
            advance();
            return token == ';';
        }

        /** Behind the last token it starts at the text's length: the place of the fault, if it ends too early. */
        private void advance() {
            while (place < length && letters[place] == ' ') {
                place++;
            }
            start = place;
            if (place >= length) {
                token = END;
                return;
            }
            int letter = letters[place];
            if (isDigit(letter)) {
                advanceDigits();
                return;
            }
            place++;
            token = letter == 'e' || letter == 'j' || letter == ';' ? letter : WRONG;
        }

        private void advanceDigits() {
            boolean zeroAhead = letters[start] == '0';
            value = 0;
            while (place < length && isDigit(letters[place])) {
                // Held just above what a number may be, since a text full of digits would run over an int.
                value = Math.min(MOST_NUMBER + 1, value * 10 + letters[place] - '0');
                place++;
            }
            boolean wrong = value > MOST_NUMBER || (zeroAhead && place - start > 1);
            token = wrong ? WRONG : NUMBER;
        }

        private static boolean isDigit(int letter) {
            return letter >= '0' && letter <= '9';
        }
    }

    /** How things stand between two ticks; times are told from there on, not by the ticks' numbers. */
    private static final class Scene {
        int tick;
        int every;
        int round;
        int inside;
        final int[] up = new int[MOST_JUMPERS];
        final int[] due = new int[MOST_JUMPERS];
        final int[] wind = new int[MOST_JUMPERS];

        void open(Crew crew) {
            tick = 0;
            every = crew.every;
            round = crew.every;
            inside = (1 << crew.size) - 1;
            for (int j = 0; j < MOST_JUMPERS; j++) {
                up[j] = 0;
                due[j] = crew.start[j];
                wind[j] = crew.wind[j];
            }
        }

        void become(Scene other) {
            tick = other.tick;
            every = other.every;
            round = other.round;
            inside = other.inside;
            System.arraycopy(other.up, 0, up, 0, MOST_JUMPERS);
            System.arraycopy(other.due, 0, due, 0, MOST_JUMPERS);
            System.arraycopy(other.wind, 0, wind, 0, MOST_JUMPERS);
        }

        boolean holds(int j) {
            return (inside & (1 << j)) != 0;
        }

        /** One tick; answers who trips in it. */
        int step(Crew crew) {
            jumpAll(crew);
            int tripped = 0;
            round--;
            if (round <= 0) {
                tripped = inside & ~airborne();
                inside &= ~tripped;
                round = tripped == 0 ? every : every + 1;
            }
            pass();
            return tripped;
        }

        private void jumpAll(Crew crew) {
            for (int j = 0; j < crew.size; j++) {
                if (holds(j) && due[j] <= 0) {
                    due[j] = crew.period[j];
                    if (wind[j] > 0) {
                        wind[j]--;
                        up[j] = crew.hang[j];
                    }
                }
            }
        }

        private int airborne() {
            int bits = 0;
            for (int j = 0; j < MOST_JUMPERS; j++) {
                if (up[j] > 0) {
                    bits |= 1 << j;
                }
            }
            return bits;
        }

        /** Who went out in the air comes down like the others: going out ends no jump. */
        private void pass() {
            tick++;
            for (int j = 0; j < MOST_JUMPERS; j++) {
                if (up[j] > 0) {
                    up[j]--;
                }
                if (due[j] > 0) {
                    due[j]--;
                }
            }
        }

        /** TURNED is to another EVERY alone: left as it is, the rope keeps the one tick more behind a trip. */
        void turn(int another) {
            if (another == every) {
                return;
            }
            every = another;
            round = Math.min(round, another);
        }

        void leave(int j) {
            inside &= ~(1 << j);
        }

        void enter(int j, int d) {
            inside |= 1 << j;
            up[j] = 0;
            due[j] = d;
        }
    }

    /** The scenes ahead of the latest calls, in a ring, so that the oldest gives way. */
    private static final class Past {
        private final Scene[] ring = new Scene[MOST_UNDONE];
        private int next;
        int size;

        Past() {
            for (int i = 0; i < MOST_UNDONE; i++) {
                ring[i] = new Scene();
            }
        }

        void push(Scene scene) {
            Scene slot = ring[next];
            if (slot == null) {
                return;
            }
            slot.become(scene);
            next = (next + 1) % MOST_UNDONE;
            size = Math.min(size + 1, MOST_UNDONE);
        }

        void popInto(Scene scene) {
            int latest = (next + MOST_UNDONE - 1) % MOST_UNDONE;
            Scene slot = ring[latest];
            if (size <= 0 || slot == null) {
                return;
            }
            scene.become(slot);
            next = latest;
            size--;
        }
    }

    /** What was seen of the unknown one, and the periods and starts that agree with it. */
    private static final class Sight {
        int size;
        private final int[] hangs = new int[MOST_SEEN];
        private final int[] ticksSeen = new int[MOST_SEEN];
        private final boolean[] ups = new boolean[MOST_SEEN];
        int found;
        final int[] periods = new int[ALL_WAYS];
        final int[] starts = new int[ALL_WAYS];

        void add(int hang, int t, boolean up) {
            if (size >= MOST_SEEN) {
                return;
            }
            hangs[size] = hang;
            ticksSeen[size] = t;
            ups[size] = up;
            size++;
        }

        void gather() {
            found = 0;
            for (int period = LEAST_PERIOD; period <= MOST_PERIOD; period++) {
                for (int start = 0; start <= LATEST_START; start++) {
                    if (found < ALL_WAYS && agrees(period, start)) {
                        periods[found] = period;
                        starts[found] = start;
                        found++;
                    }
                }
            }
        }

        private boolean agrees(int period, int start) {
            for (int i = 0; i < size; i++) {
                if (isUp(period, start, hangs[i], ticksSeen[i]) != ups[i]) {
                    return false;
                }
            }
            return true;
        }

        private static boolean isUp(int period, int start, int hang, int t) {
            return period > 0 && t >= start && (t - start) % period < hang;
        }

        int bestTick(int hang) {
            int best = 0;
            int smallest = found + 1;
            for (int t = 0; t <= LATEST_SEEN; t++) {
                int inAir = 0;
                for (int i = 0; i < found; i++) {
                    if (isUp(periods[i], starts[i], hang, t)) {
                        inAir++;
                    }
                }
                int greater = Math.max(inAir, found - inAir);
                if (greater < smallest) {
                    smallest = greater;
                    best = t;
                }
            }
            return best;
        }
    }

    private static class JumperKind {
        int worth(SkipRope rope, int j) {
            rope.asked += 1;
            return rope.scene.wind[j];
        }
    }

    private static class BouncerKind extends JumperKind {
        int worth(SkipRope rope, int j) {
            rope.asked += 10;
            return super.worth(rope, j) + rope.crew.hang[j];
        }
    }

    private static class HopperKind extends JumperKind {
        int worth(SkipRope rope, int j) {
            rope.asked += 100;
            return super.worth(rope, j) - rope.scene.round;
        }
    }

    private static final class CrossKind extends BouncerKind {
        int worth(SkipRope rope, int j) {
            rope.asked += 1000;
            return 2 * super.worth(rope, j);
        }
    }

    private static final class PepperKind extends HopperKind {
        int worth(SkipRope rope, int j) {
            rope.asked += 10000;
            return super.worth(rope, j) + j;
        }
    }

    private static final class DoubleKind extends JumperKind {
        int worth(SkipRope rope, int j) {
            rope.asked += 100000;
            return super.worth(rope, j) + rope.scene.tick;
        }
    }
}
