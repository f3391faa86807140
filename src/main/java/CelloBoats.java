import java.util.Arrays;

/** Cellos that go by water: a sound told as a text, and what its boats do hour by hour. */
public final class CelloBoats {
    public static final int NONE = -1;
    public static final long NOTHING = -1000000000000000L;

    private static final int TAPE_MOST = 1600;
    private static final int FEED = 20;
    private static final int BOATS_MOST = 6;
    private static final int RIDERS_MOST = 6;
    private static final int PLACES_MOST = 6;
    private static final int LETTERS_MOST = 6;
    private static final int STATEMENTS_MOST = 80;
    private static final int NOTES = 8;
    /** Heard instead of a NOTE where a BOAT is not bowed. */
    private static final int SILENT = 8;
    private static final int MILES = 61;
    /** How tight, and how much rosin, at the most. */
    private static final int FULL = 99;
    private static final int LAST_HOUR = 999;
    private static final int AHEAD_MOST = 60;
    private static final int TRIAL_MOST = 30;
    private static final int ACT_HOURS_MOST = 100;
    private static final int KEPT_TOLD = 40;
    /** 20 ACTS of 6 BOATS each can be undone, and the 40 ahead of them must still be there then. */
    private static final int KEPT_RING = 256;
    private static final int SEED_BITS = 0x7fffffff;

    // A BOAT's row of the state; an IMAGE tells a BOAT in the same order.
    private static final int MILE = 0;
    private static final int TIGHT = 1;
    private static final int ROSIN = 2;
    private static final int SUNK = 3;
    private static final int PLACE = 4;
    private static final int SCORE = 5;
    private static final int ROW = SCORE + PLACES_MOST;
    // Behind the BOATS' rows; all that an ACT changes is in the state, so that undoing is a copy.
    private static final int HOUR = BOATS_MOST * ROW;
    private static final int KEPT = HOUR + 1;
    private static final int STATE = KEPT + 1;

    // The formulas of a SOUND.
    private static final int CARRY = 0;
    private static final int SLIPS = 1;
    private static final int SWAMP = 2;
    private static final int FORMULAS = 3;

    // The words by number: the OWN WORDS first, then those that begin a QUESTION.
    private static final int W_SOUND = 0;
    private static final int W_BOAT = 1;
    private static final int W_AT = 2;
    private static final int W_TIGHT = 3;
    private static final int W_ROSIN = 4;
    private static final int W_SCORE = 5;
    private static final int W_WOLF = 6;
    private static final int W_RIDER = 7;
    private static final int W_KEY = 8;
    private static final int W_CARRY = 9;
    private static final int W_SLIPS = 10;
    private static final int W_SWAMP = 11;
    private static final int W_WIND = 12;
    private static final int W_SQUALL = 13;
    private static final int W_NOTE = 14;
    private static final int W_MILE = 15;
    private static final int W_WENT = 16;
    private static final int W_NUMBER = 17;
    private static final int W_SUNK = 18;
    private static final int W_HOUR = 19;
    private static final int W_OR = 20;
    private static final int W_AND = 21;
    private static final int W_NOT = 22;
    private static final int W_ALL = 23;
    private static final int W_MIN = 24;
    private static final int W_MAX = 25;
    private static final int OWN_WORDS = 26;
    private static final int W_FIRST = 26;
    private static final int W_LAST = 27;
    private static final int W_OFTEN = 28;
    private static final int W_TOTAL = 29;
    private static final int W_MOST = 30;
    private static final int W_LEAST = 31;
    private static final int WORDS = 32;
    /** The words in the order of their numbers, a blank behind each. */
    private static final String WORD_LIST =
        "sound boat at tight rosin score wolf rider key carry slips swamp wind squall note mile went number sunk hour or and not all min max first last often total most least ";

    private final int[] tape = new int[TAPE_MOST];
    private int tapeSize;
    private final Scan scan = new Scan();
    private final Formula formula = new Formula(scan);
    private Chart chart = new Chart();
    /** A text is read into this one, so that a FAULT leaves THE SOUND as it is. */
    private Chart spare = new Chart();
    private final SoundText soundText = new SoundText(scan, formula, spare);
    private final int[] state = new int[STATE];
    private final int[] keptRing = new int[KEPT_RING];
    private final Acts acts = new Acts();
    private final Hull hull = new Hull(chart);
    private final Hull otherHull = new Hull(chart);
    private final Plans plans = new Plans();
    private final Ferry ferry = new Ferry();
    private final Heard heard = new Heard();
    private final Picture picture = new Picture();
    private final int[] refused = new int[6];
    private int seedNow = 1;

    public CelloBoats() {
    }

    // ---- the tape and the sound

    public int feed(int a, int b, int c, int d, int e) {
        if (tapeSize + FEED > TAPE_MOST) {
            refuse(0);
            return NONE;
        }
        addToTape(a);
        addToTape(b);
        addToTape(c);
        addToTape(d);
        addToTape(e);
        return tapeSize;
    }

    public boolean end(int n) {
        if (n < 0 || n > tapeSize) {
            return refuse(0);
        }
        tapeSize = n;
        return true;
    }

    public int sound() {
        scan.start(tape, tapeSize);
        int statements = soundText.read(spare);
        tapeSize = 0;
        if (scan.fault != 0) {
            refuse(1);
            return NONE;
        }
        Chart old = chart;
        chart = spare;
        spare = old;
        System.arraycopy(chart.start, 0, state, 0, chart.start.length);
        state[HOUR] = 0;
        forgetActs();
        heard.rows = 0;
        return statements;
    }

    public int fault(int what) {
        if (what == 0) {
            return scan.fault;
        }
        return what == 1 ? scan.place : NONE;
    }

    public int has(int what) {
        switch (what) {
            case 0: return chart.last;
            case 1: return chart.boats;
            case 2: return chart.riders;
            case 3: return chart.wolves;
            case 4: return state[HOUR];
            case 5: return landedBoats();
            case 6: return sunkBoats();
            case 7: return keptTold();
            case 8: return heard.rows;
            case 9: return acts.count;
            default: return NONE;
        }
    }

    public int letter(int kind, int which, int k) {
        if (k < 0 || k >= LETTERS_MOST) {
            return NONE;
        }
        if (kind == 0 && isBoat(which)) {
            return letterOf(chart.boatNames[which], k);
        }
        if (kind == 1 && isRider(which)) {
            return letterOf(chart.riderNames[which], k);
        }
        return NONE;
    }

    public int boat(int boat, int what) {
        if (!isBoat(boat)) {
            return NONE;
        }
        switch (what) {
            case 0: return slot(boat, MILE);
            case 1: return slot(boat, TIGHT);
            case 2: return slot(boat, ROSIN);
            case 3: return slot(boat, SUNK);
            case 4: return isLanded(boat) ? 1 : 0;
            case 5: return chart.notes[boat];
            case 6: return slot(boat, PLACE);
            default: return NONE;
        }
    }

    public int score(int boat, int k) {
        return isPlace(boat, k) ? slot(boat, SCORE + k) : NONE;
    }

    public long carry(int boat, int note) {
        if (!isBoat(boat) || !isNote(note)) {
            return NOTHING;
        }
        hull.load(chart, state, boat);
        return hull.reach(note, chart.wind);
    }

    public int wolf(int mile, int note) {
        if (!isMile(mile) || !isNote(note)) {
            return NONE;
        }
        return chart.isWolf(mile, note) ? 1 : 0;
    }

    public int rider(int rider) {
        return isRider(rider) ? chart.keys[rider] : NONE;
    }

    public int kept(int k, int what) {
        int told = keptTold();
        if (k < 0 || k >= told) {
            return NONE;
        }
        int entry = keptRing[(state[KEPT] - told + k) & (KEPT_RING - 1)];
        switch (what) {
            case 0: return entry >> 4;
            case 1: return entry >> 1 & 7;
            case 2: return entry & 1;
            default: return NONE;
        }
    }

    // ---- ahead

    public int later(int boat, int n, int what) {
        if (!isBoat(boat) || n < 0 || n > hoursAhead(AHEAD_MOST)) {
            return NONE;
        }
        hull.load(chart, state, boat);
        for (int k = 0; k < n; k++) {
            hull.pass(chart.wind);
        }
        switch (what) {
            case 0: return hull.mile;
            case 1: return hull.tight;
            case 2: return hull.rosin;
            case 3: return hull.sunk ? 1 : 0;
            default: return NONE;
        }
    }

    public int lands(int boat) {
        if (!isBoat(boat)) {
            return NONE;
        }
        hull.load(chart, state, boat);
        return hull.landsBehind(hoursAhead(AHEAD_MOST));
    }

    public int cat(int what) {
        int first = hoursAhead(AHEAD_MOST);
        int who = NONE;
        for (int boat = 0; boat < chart.boats; boat++) {
            hull.load(chart, state, boat);
            int number = hull.sinksIn(first);
            // A later BOAT must be sooner, not as soon: BOATS are bowed in their order.
            if (number != NONE) {
                first = number;
                who = boat;
            }
        }
        if (who == NONE) {
            return NONE;
        }
        return what == 0 ? first : what == 1 ? who : NONE;
    }

    public int meets(int one, int other) {
        if (!isBoat(one) || !isBoat(other) || one == other) {
            return NONE;
        }
        hull.load(chart, state, one);
        otherHull.load(chart, state, other);
        int hours = hoursAhead(AHEAD_MOST);
        for (int k = 0; k <= hours; k++) {
            if (hull.mile == otherHull.mile) {
                return k;
            }
            hull.pass(chart.wind);
            otherHull.pass(chart.wind);
        }
        return NONE;
    }

    // ---- plans, strings, riders

    public int plan(int boat, int mile, int k) {
        if (!isBoat(boat) || !isMile(mile) || k < NONE || slot(boat, SUNK) == 1) {
            return NONE;
        }
        hull.load(chart, state, boat);
        int length = plans.find(hull, chart.wind, mile);
        if (k == NONE || length == NONE) {
            return length;
        }
        return k < length ? plans.noteAt(k) : NONE;
    }

    public int strung(int boat, int n, int what) {
        if (!isBoat(boat) || !canTry(n) || isLanded(boat)) {
            return NONE;
        }
        int best = n + 1;
        int bestTight = NONE;
        for (int tight = 0; tight <= FULL; tight++) {
            hull.load(chart, state, boat);
            hull.tight = tight;
            int behind = hull.landsBehind(best - 1);
            if (behind != NONE) {
                best = behind;
                bestTight = tight;
            }
        }
        if (bestTight == NONE) {
            return NONE;
        }
        return what == 0 ? bestTight : what == 1 ? best : NONE;
    }

    public int better(int boat, int n, int what) {
        if (!isBoat(boat) || !canTry(n) || isLanded(boat)) {
            return NONE;
        }
        hull.load(chart, state, boat);
        int without = hull.landsBehind(n);
        int best = without == NONE ? n + 1 : without;
        int change = NONE;
        for (int k = 0; k < chart.notes[boat] * NOTES; k++) {
            hull.load(chart, state, boat);
            hull.change(k / NOTES, k % NOTES);
            int behind = hull.landsBehind(best - 1);
            if (behind != NONE) {
                best = behind;
                change = k;
            }
        }
        if (change == NONE) {
            return NONE;
        }
        switch (what) {
            case 0: return change / NOTES;
            case 1: return change % NOTES;
            case 2: return best;
            default: return NONE;
        }
    }

    public int rides(int rider) {
        if (!hasSound() || rider != NONE && !isRider(rider)) {
            return NONE;
        }
        for (int r = 0; r < chart.riders; r++) {
            ferry.fits[r] = boatsFor(chart.keys[r]);
        }
        int most = ferry.fill(chart.riders);
        return rider == NONE ? most : ferry.row[rider];
    }

    // ---- what is heard

    public int see() {
        boolean taken = hasSound() && heard.take(tape, tapeSize);
        tapeSize = 0;
        if (!taken) {
            refuse(1);
            return NONE;
        }
        return heard.rows;
    }

    public int which() {
        heard.listen(hull, chart, state);
        return heard.fitting(chart.boats);
    }

    public int tells(int what) {
        heard.listen(hull, chart, state);
        if (!heard.weigh(heard.fitting(chart.boats))) {
            return NONE;
        }
        return what == 0 ? heard.tellingHour : what == 1 ? heard.tellingLeft : NONE;
    }

    // ---- acts

    public boolean tune(int boat, int tight) {
        if (!isBoat(boat) || !isAmount(tight) || slot(boat, TIGHT) == tight) {
            return refuse(2);
        }
        acts.keep(state);
        setSlot(boat, TIGHT, tight);
        return true;
    }

    public int rosin(int boat, int much) {
        if (!isBoat(boat) || !isAmount(much) || much == 0 || slot(boat, ROSIN) == FULL) {
            refuse(2);
            return NONE;
        }
        acts.keep(state);
        setSlot(boat, ROSIN, Math.min(FULL, slot(boat, ROSIN) + much));
        return slot(boat, ROSIN);
    }

    public boolean raise(int boat) {
        if (!isBoat(boat) || slot(boat, SUNK) == 0) {
            return refuse(2);
        }
        acts.keep(state);
        setSlot(boat, SUNK, 0);
        return true;
    }

    public boolean note(int boat, int k, int note) {
        if (!isPlace(boat, k) || !isNote(note) || slot(boat, SCORE + k) == note) {
            return refuse(2);
        }
        acts.keep(state);
        setSlot(boat, SCORE + k, note);
        return true;
    }

    public int hours(int n) {
        if (!canPass(n)) {
            refuse(3);
            return NONE;
        }
        acts.keep(state);
        int landed = 0;
        for (int k = 0; k < n; k++) {
            landed += passHour(chart.wind);
        }
        return landed;
    }

    public int chance(int n) {
        if (!canPass(n)) {
            refuse(3);
            return NONE;
        }
        acts.keep(state);
        int squalls = 0;
        for (int k = 0; k < n; k++) {
            int wind = chart.wind;
            if (draw(100) < chart.squall) {
                wind = draw(10);
                squalls++;
            }
            passHour(wind);
        }
        return squalls;
    }

    public boolean undo() {
        return acts.takeBack(state) || refuse(4);
    }

    public boolean seed(int seed) {
        if (seed < 0) {
            return refuse(5);
        }
        seedNow = seed;
        return true;
    }

    // ---- questions

    public long ask() {
        if (!hasSound()) {
            tapeSize = 0;
            return NOTHING;
        }
        scan.start(tape, tapeSize);
        int kind = formula.question();
        tapeSize = 0;
        if (scan.fault != 0) {
            return NOTHING;
        }
        return answer(kind);
    }

    // ---- images, refusals

    public int image() {
        picture.write(chart, state);
        return picture.size;
    }

    public int octet(int k) {
        return k >= 0 && k < picture.size ? picture.bytes[k] : NONE;
    }

    public boolean on() {
        boolean taken = hasSound() && Picture.isOf(tape, tapeSize, chart);
        if (taken) {
            Picture.read(tape, chart, state);
            forgetActs();
        }
        tapeSize = 0;
        return taken || refuse(5);
    }

    public int status(int what) {
        return what >= 0 && what < refused.length ? refused[what] : NONE;
    }

    // ---- what there is

    private boolean hasSound() {
        return chart.last > 0;
    }

    private boolean isBoat(int boat) {
        return boat >= 0 && boat < chart.boats;
    }

    private boolean isRider(int rider) {
        return rider >= 0 && rider < chart.riders;
    }

    private boolean isMile(int mile) {
        return hasSound() && mile >= 0 && mile <= chart.last;
    }

    private boolean isPlace(int boat, int k) {
        return isBoat(boat) && k >= 0 && k < chart.notes[boat];
    }

    private static boolean isNote(int note) {
        return note >= 0 && note < NOTES;
    }

    private static boolean isAmount(int much) {
        return much >= 0 && much <= FULL;
    }

    private static int letterOf(int name, int k) {
        return name >> 5 * (LETTERS_MOST - 1 - k) & 31;
    }

    private int slot(int boat, int what) {
        return state[boat * ROW + what];
    }

    private void setSlot(int boat, int what, int value) {
        state[boat * ROW + what] = value;
    }

    private boolean isLanded(int boat) {
        return slot(boat, MILE) == chart.last;
    }

    private int landedBoats() {
        int count = 0;
        for (int boat = 0; boat < chart.boats; boat++) {
            count += isLanded(boat) ? 1 : 0;
        }
        return count;
    }

    private int sunkBoats() {
        int count = 0;
        for (int boat = 0; boat < chart.boats; boat++) {
            count += slot(boat, SUNK);
        }
        return count;
    }

    private int keptTold() {
        return Math.min(KEPT_TOLD, state[KEPT]);
    }

    /** How many HOURS AHEAD there are, of so many at the most. */
    private int hoursAhead(int most) {
        return Math.min(most, LAST_HOUR - state[HOUR]);
    }

    private boolean canTry(int n) {
        return n >= 1 && n <= hoursAhead(TRIAL_MOST);
    }

    private boolean canPass(int n) {
        return hasSound() && n >= 1 && n <= hoursAhead(ACT_HOURS_MOST);
    }

    /** The BOATS, as bits, that a RIDER of a key can ride on. */
    private int boatsFor(int key) {
        int bits = 0;
        for (int boat = 0; boat < chart.boats; boat++) {
            if (isLanded(boat) || slot(boat, SUNK) == 1) {
                continue;
            }
            for (int k = 0; k < chart.notes[boat]; k++) {
                if (slot(boat, SCORE + k) == key) {
                    bits |= 1 << boat;
                }
            }
        }
        return bits;
    }

    // ---- what changes

    private void addToTape(int number) {
        for (int shift = 24; shift >= 0; shift -= 8) {
            if (tapeSize < TAPE_MOST) {
                tape[tapeSize] = number >> shift & 255;
                tapeSize++;
            }
        }
    }

    /** False, so that a call can answer by it. */
    private boolean refuse(int kind) {
        refused[kind]++;
        return false;
    }

    private void forgetActs() {
        state[KEPT] = 0;
        acts.count = 0;
    }

    /** How many BOATS LANDED. */
    private int passHour(int wind) {
        int landed = 0;
        for (int boat = 0; boat < chart.boats; boat++) {
            hull.load(chart, state, boat);
            if (hull.pass(wind) == SILENT) {
                continue;
            }
            hull.store(state, boat);
            if (hull.isLanded()) {
                landed++;
                addKept(boat, 1);
            } else if (hull.sunk) {
                addKept(boat, 0);
            }
        }
        state[HOUR]++;
        return landed;
    }

    private void addKept(int boat, int landed) {
        keptRing[state[KEPT] & (KEPT_RING - 1)] = state[HOUR] << 4 | boat << 1 | landed;
        state[KEPT]++;
    }

    /** The callers ask for m above 0. */
    private int draw(int m) {
        seedNow = 1103515245 * seedNow + 12345 & SEED_BITS;
        return m > 0 ? seedNow / 64 % m : 0;
    }

    // ---- the answer to a QUESTION

    private long answer(int kind) {
        boolean isTest = kind == W_FIRST || kind == W_LAST || kind == W_OFTEN;
        long result = kind == W_FIRST || kind == W_LAST ? NONE : 0;
        for (int boat = 0; boat < chart.boats; boat++) {
            int value = valueFor(boat);
            if (isTest && value == 0) {
                continue;
            }
            if (kind == W_FIRST) {
                return boat;
            }
            result = gather(kind, result, value, boat);
        }
        return result;
    }

    /** What is so far, with one BOAT more. */
    private static long gather(int kind, long result, int value, int boat) {
        switch (kind) {
            case W_LAST: return boat;
            case W_OFTEN: return result + 1;
            case W_TOTAL: return result + value;
            case W_MOST: return boat == 0 ? value : Math.max(result, value);
            case W_LEAST: return boat == 0 ? value : Math.min(result, value);
            default: return result;
        }
    }

    private int valueFor(int boat) {
        hull.load(chart, state, boat);
        Machine machine = hull.machine;
        if (formula.asksCarry) {
            for (int note = 0; note < NOTES; note++) {
                machine.reaches[note] = hull.reach(note, chart.wind);
            }
        }
        hull.show(hull.nextNote(), chart.wind);
        machine.values[W_NUMBER] = boat;
        machine.values[W_SUNK] = hull.sunk ? 1 : 0;
        machine.values[W_HOUR] = state[HOUR];
        machine.places = hull.notes;
        System.arraycopy(hull.score, 0, machine.score, 0, PLACES_MOST);
        return machine.run(formula.code, 0, formula.size);
    }

    /** THE SOUND: what stays so while the HOURS pass. */
    private static final class Chart {
        /** The last mile; 0 while there is no sound. */
        int last;
        int boats;
        int riders;
        int wolves;
        int wind;
        int squall;
        final int[] boatNames = new int[BOATS_MOST];
        final int[] riderNames = new int[RIDERS_MOST];
        final int[] keys = new int[RIDERS_MOST];
        /** How many NOTES each BOAT's score has. */
        final int[] notes = new int[BOATS_MOST];
        /** The BOATS' rows of the state as they are at first. */
        final int[] start = new int[BOATS_MOST * ROW];
        /** A bit for each NOTE, by mile. */
        private final int[] wolfBits = new int[MILES];
        final int[] code = new int[TAPE_MOST];
        /** Where each formula's code is. */
        final int[] from = new int[FORMULAS];
        final int[] to = new int[FORMULAS];

        void clear() {
            last = 0;
            boats = 0;
            riders = 0;
            wolves = 0;
            wind = 0;
            squall = 0;
            Arrays.fill(notes, 0);
            Arrays.fill(start, 0);
            Arrays.fill(wolfBits, 0);
            Arrays.fill(from, 0);
            Arrays.fill(to, 0);
        }

        boolean isTold(int formula) {
            return to[formula] > from[formula];
        }

        boolean isWolf(int mile, int note) {
            return mile >= 0 && mile < MILES && (wolfBits[mile] >> note & 1) == 1;
        }

        void addWolf(int mile, int note) {
            if (mile >= 0 && mile < MILES) {
                wolfBits[mile] |= 1 << note;
                wolves++;
            }
        }

        int boatNamed(int name) {
            for (int boat = 0; boat < boats; boat++) {
                if (boatNames[boat] == name) {
                    return boat;
                }
            }
            return NONE;
        }

        boolean isNamed(int name) {
            for (int rider = 0; rider < riders; rider++) {
                if (riderNames[rider] == name) {
                    return true;
                }
            }
            return boatNamed(name) != NONE;
        }
    }

    /** Words, numbers and signs along a text, and the first FAULT. */
    private static final class Scan {
        static final int END = 0;
        static final int WORD = 1;
        static final int NUMBER = 2;
        static final int SIGN = 3;
        /** Goes with nothing: what stands here can't stand anywhere, or there was a FAULT. */
        static final int BAD = 4;
        private static final int DIGITS_MOST = 4;

        private final int[] wordNames = new int[WORDS];
        private int[] text = new int[0];
        private int size;
        private int after;
        int at;
        private int kind;
        /** Letters or digits. */
        private int length;
        /** Of a number its value, of a sign its byte. */
        private int value;
        /** The word's number; NONE for one that is in no list. */
        private int word;
        /** The word's letters, five bits each, the first one highest. */
        int name;
        int fault;
        int place = NONE;

        Scan() {
            int number = 0;
            int packed = 0;
            int letters = 0;
            for (int i = 0; i < WORD_LIST.length() && number < WORDS; i++) {
                char c = WORD_LIST.charAt(i);
                if (c == ' ') {
                    wordNames[number] = packed << 5 * (LETTERS_MOST - letters);
                    number++;
                    packed = 0;
                    letters = 0;
                } else {
                    packed = packed << 5 | c - 'a' + 1;
                    letters++;
                }
            }
        }

        void start(int[] bytes, int many) {
            text = bytes;
            size = Math.min(many, bytes.length);
            after = 0;
            fault = 0;
            place = NONE;
            kind = END;
            next();
        }

        void fail(int what, int where) {
            if (fault == 0) {
                fault = what;
                place = where;
                kind = BAD;
            }
        }

        void failHere() {
            fail(1, at);
        }

        void next() {
            if (fault != 0) {
                return;
            }
            boolean behindWord = kind == WORD || kind == NUMBER;
            int from = after;
            at = from;
            for (int i = from; i < size && (text[i] == ' ' || text[i] == 10); i++) {
                at = i + 1;
            }
            int letters = run('a', 'z');
            int digits = run('0', '9');
            if (letters > 0) {
                readWord(letters);
            } else if (digits > 0) {
                readNumber(digits);
            } else if (at < size) {
                kind = SIGN;
                value = text[at];
                after = at + 1;
            } else {
                kind = END;
                after = at;
            }
            // A word and a number side by side need a blank.
            if ((kind == WORD || kind == NUMBER) && at == from && behindWord) {
                kind = BAD;
            }
        }

        /** How many bytes from here on are of these. */
        private int run(int least, int most) {
            int many = 0;
            for (int i = at; i < size && text[i] >= least && text[i] <= most; i++) {
                many++;
            }
            return many;
        }

        private void readWord(int letters) {
            kind = WORD;
            length = letters;
            after = at + letters;
            name = 0;
            for (int k = 0; k < letters && k < LETTERS_MOST; k++) {
                name |= text[at + k] - 'a' + 1 << 5 * (LETTERS_MOST - 1 - k);
            }
            word = NONE;
            for (int i = 0; i < WORDS && length <= LETTERS_MOST; i++) {
                if (wordNames[i] == name) {
                    word = i;
                }
            }
        }

        private void readNumber(int digits) {
            kind = NUMBER;
            length = digits;
            after = at + digits;
            value = 0;
            for (int k = 0; k < digits && k < DIGITS_MOST; k++) {
                value = value * 10 + text[at + k] - '0';
            }
        }

        boolean isEnd() {
            return kind == END;
        }

        boolean isNumber() {
            return kind == NUMBER;
        }

        boolean isSign(int sign) {
            return kind == SIGN && value == sign;
        }

        boolean isWord(int number) {
            return kind == WORD && word == number;
        }

        /** The number of the word here, NONE for any other. */
        int wordHere() {
            return kind == WORD ? word : NONE;
        }

        /** The byte of the sign here, NONE for any other. */
        int signHere() {
            return kind == SIGN ? value : NONE;
        }

        void needSign(int sign) {
            if (isSign(sign)) {
                next();
            } else {
                failHere();
            }
        }

        void needWord(int number) {
            if (isWord(number)) {
                next();
            } else {
                failHere();
            }
        }

        int needNumber(int least, int most) {
            if (kind != NUMBER) {
                failHere();
            } else if (length > DIGITS_MOST) {
                fail(1, at + DIGITS_MOST);
            } else if (value < least || value > most) {
                fail(2, at);
            }
            int number = fault == 0 ? value : least;
            next();
            return number;
        }

        /** Stays at the NAME: whether it can be this one is looked at there. */
        void needName() {
            if (kind != WORD) {
                failHere();
            } else if (length > LETTERS_MOST) {
                fail(1, at + LETTERS_MOST);
            } else if (word >= 0 && word < OWN_WORDS) {
                failHere();
            }
        }
    }

    /**
     * Turns TESTS and SUMS into code for the Machine: numbers as they are; words and signs by
     * their number or byte, with a mark of what they work on, and behind that.
     */
    private static final class Formula {
        private static final int OPEN_MOST = 6;
        private static final int NUMBER_MOST = 9999;
        private static final int QUESTION = FORMULAS;
        // The marks stand above any number of a text.
        static final int MARK = NUMBER_MOST + 1;
        static final int OF_NONE = MARK;
        static final int OF_ONE = 2 * MARK;
        static final int OF_TWO = 3 * MARK;

        private final Scan scan;
        final int[] code = new int[TAPE_MOST];
        int size;
        boolean asksCarry;
        private int open;
        /** Which formula it is, or QUESTION: that decides which words are a PART. */
        private int sort;

        Formula(Scan scan) {
            this.scan = scan;
        }

        void clear() {
            size = 0;
            asksCarry = false;
        }

        void begin(int formula) {
            sort = formula;
            open = 0;
        }

        /** The code of a formula that a SOUND does not tell. */
        void addWithout(int formula) {
            switch (formula) {
                case CARRY: emit(1); break;
                case SLIPS: emit(OF_NONE + W_TIGHT); break;
                default: emit(0);
            }
        }

        /** The word that the QUESTION begins with. */
        int question() {
            clear();
            begin(QUESTION);
            int kind = scan.wordHere();
            if (kind == W_FIRST || kind == W_LAST || kind == W_OFTEN) {
                scan.next();
                test();
            } else if (kind == W_TOTAL || kind == W_MOST || kind == W_LEAST) {
                scan.next();
                sum();
            } else {
                scan.failHere();
            }
            if (!scan.isEnd()) {
                scan.failHere();
            }
            return kind;
        }

        private void emit(int value) {
            if (size < TAPE_MOST) {
                code[size] = value;
                size++;
            }
        }

        private boolean opens() {
            if (open >= OPEN_MOST) {
                scan.fail(4, scan.at);
                return false;
            }
            open++;
            scan.next();
            return true;
        }

        void test() {
            both();
            for (int i = 0; i < TAPE_MOST && scan.isWord(W_OR); i++) {
                scan.next();
                both();
                emit(OF_TWO + W_OR);
            }
        }

        private void both() {
            fact();
            for (int i = 0; i < TAPE_MOST && scan.isWord(W_AND); i++) {
                scan.next();
                fact();
                emit(OF_TWO + W_AND);
            }
        }

        private void fact() {
            if (scan.isWord(W_NOT)) {
                if (opens()) {
                    fact();
                    emit(OF_ONE + W_NOT);
                    open--;
                }
            } else if (scan.isSign('[')) {
                if (opens()) {
                    test();
                    scan.needSign(']');
                    open--;
                }
            } else if (scan.isWord(W_ALL)) {
                scan.next();
                emit(1);
            } else {
                sum();
                int sign = scan.signHere();
                if (sign != '<' && sign != '>' && sign != '=') {
                    scan.failHere();
                    return;
                }
                scan.next();
                sum();
                emit(OF_TWO + sign);
            }
        }

        void sum() {
            product();
            for (int i = 0; i < TAPE_MOST && (scan.isSign('+') || scan.isSign('-')); i++) {
                int sign = scan.signHere();
                scan.next();
                product();
                emit(OF_TWO + sign);
            }
        }

        private void product() {
            part();
            for (int i = 0; i < TAPE_MOST && (scan.isSign('*') || scan.isSign('/')); i++) {
                int sign = scan.signHere();
                scan.next();
                part();
                emit(OF_TWO + sign);
            }
        }

        private void part() {
            int word = scan.wordHere();
            if (scan.isNumber()) {
                emit(scan.needNumber(0, NUMBER_MOST));
            } else if (scan.isSign('(')) {
                if (opens()) {
                    sum();
                    scan.needSign(')');
                    open--;
                }
            } else if (word == W_MIN || word == W_MAX) {
                pair(word);
            } else if (sort == QUESTION && (word == W_CARRY || word == W_SCORE)) {
                if (opens()) {
                    part();
                    emit(OF_ONE + word);
                    open--;
                    asksCarry |= word == W_CARRY;
                }
            } else if (isValue(word)) {
                emit(OF_NONE + word);
                scan.next();
            } else {
                scan.failHere();
            }
        }

        private void pair(int word) {
            scan.next();
            if (!scan.isSign('(')) {
                scan.failHere();
            } else if (opens()) {
                sum();
                scan.needSign(',');
                sum();
                scan.needSign(')');
                open--;
                emit(OF_TWO + word);
            }
        }

        private boolean isValue(int word) {
            switch (word) {
                case W_NOTE:
                case W_TIGHT:
                case W_ROSIN:
                case W_MILE:
                case W_WIND:
                    return true;
                case W_WENT:
                    return sort == SWAMP;
                case W_NUMBER:
                case W_SUNK:
                case W_HOUR:
                    return sort == QUESTION;
                default:
                    return false;
            }
        }
    }

    /** Reads the STATEMENTS of a SOUND into a Chart. */
    private static final class SoundText {
        private final Scan scan;
        private final Formula formula;
        private Chart chart;

        SoundText(Scan scan, Formula formula, Chart chart) {
            this.scan = scan;
            this.formula = formula;
            this.chart = chart;
        }

        /** How many STATEMENTS; whether there was a FAULT the Scan knows. */
        int read(Chart into) {
            chart = into;
            chart.clear();
            formula.clear();
            int count = 0;
            for (int i = 0; i <= STATEMENTS_MOST && !scan.isEnd() && scan.fault == 0; i++) {
                if (i == STATEMENTS_MOST) {
                    scan.fail(5, scan.at);
                } else if (i == 0) {
                    scan.needWord(W_SOUND);
                    chart.last = scan.needNumber(5, MILES - 1);
                } else if (formulaHere() != NONE) {
                    readFormula(formulaHere());
                } else {
                    statement();
                }
                scan.needSign(';');
                count++;
            }
            if (count == 0) {
                scan.failHere();
            }
            fillIn();
            System.arraycopy(formula.code, 0, chart.code, 0, formula.size);
            return count;
        }

        private void fillIn() {
            for (int which = 0; which < FORMULAS; which++) {
                if (!chart.isTold(which)) {
                    chart.from[which] = formula.size;
                    formula.addWithout(which);
                    chart.to[which] = formula.size;
                }
            }
        }

        /** Which formula is told here, NONE for any other STATEMENT. */
        private int formulaHere() {
            switch (scan.wordHere()) {
                case W_CARRY: return CARRY;
                case W_SLIPS: return SLIPS;
                case W_SWAMP: return SWAMP;
                default: return NONE;
            }
        }

        private void statement() {
            switch (scan.wordHere()) {
                case W_BOAT: readBoat(); break;
                case W_SCORE: readScore(); break;
                case W_WOLF: readWolf(); break;
                case W_RIDER: readRider(); break;
                case W_WIND:
                    scan.next();
                    chart.wind = scan.needNumber(0, 9);
                    break;
                case W_SQUALL:
                    scan.next();
                    chart.squall = scan.needNumber(0, 100);
                    break;
                default: scan.failHere();
            }
        }

        /** Goes on behind a NAME that is new; 0 with a FAULT. */
        private int newName() {
            scan.needName();
            if (scan.fault == 0 && chart.isNamed(scan.name)) {
                scan.fail(3, scan.at);
            }
            int name = scan.fault == 0 ? scan.name : 0;
            scan.next();
            return name;
        }

        private void readBoat() {
            int boat = chart.boats;
            if (boat >= BOATS_MOST) {
                scan.fail(5, scan.at);
                return;
            }
            scan.next();
            chart.boatNames[boat] = newName();
            scan.needWord(W_AT);
            chart.start[boat * ROW + MILE] = scan.needNumber(0, chart.last);
            scan.needWord(W_TIGHT);
            chart.start[boat * ROW + TIGHT] = scan.needNumber(0, FULL);
            scan.needWord(W_ROSIN);
            chart.start[boat * ROW + ROSIN] = scan.needNumber(0, FULL);
            chart.boats++;
        }

        private void readScore() {
            scan.next();
            scan.needName();
            int boat = scan.fault == 0 ? chart.boatNamed(scan.name) : NONE;
            if (boat == NONE) {
                scan.fail(3, scan.at);
                return;
            }
            scan.next();
            int where = scan.at;
            int note = scan.needNumber(0, NOTES - 1);
            int k = chart.notes[boat];
            if (k >= PLACES_MOST) {
                scan.fail(5, where);
                return;
            }
            chart.start[boat * ROW + SCORE + k] = note;
            chart.notes[boat]++;
        }

        private void readWolf() {
            scan.next();
            int mile = scan.needNumber(0, chart.last);
            int where = scan.at;
            int note = scan.needNumber(0, NOTES - 1);
            if (chart.isWolf(mile, note)) {
                scan.fail(2, where);
                return;
            }
            chart.addWolf(mile, note);
        }

        private void readRider() {
            int rider = chart.riders;
            if (rider >= RIDERS_MOST) {
                scan.fail(5, scan.at);
                return;
            }
            scan.next();
            chart.riderNames[rider] = newName();
            scan.needWord(W_KEY);
            chart.keys[rider] = scan.needNumber(0, NOTES - 1);
            chart.riders++;
        }

        private void readFormula(int which) {
            if (chart.isTold(which)) {
                scan.fail(5, scan.at);
                return;
            }
            scan.next();
            formula.begin(which);
            chart.from[which] = formula.size;
            if (which == SWAMP) {
                formula.test();
            } else {
                formula.sum();
            }
            chart.to[which] = formula.size;
        }
    }

    /** Works out the code of a Formula; a TEST is 1 or 0. */
    private static final class Machine {
        private static final int MOST = 1000000;
        /** Six that are open at once need less than half of this. */
        private static final int STACK = 64;

        /** By the number of the word that tells it. */
        final int[] values = new int[OWN_WORDS];
        /** How far each NOTE would carry the BOAT. */
        final int[] reaches = new int[NOTES];
        final int[] score = new int[PLACES_MOST];
        int places;
        private final int[] stack = new int[STACK];
        private int top;

        int run(int[] code, int from, int to) {
            top = 0;
            for (int i = Math.max(0, from); i < to && i < code.length; i++) {
                int symbol = code[i] % Formula.MARK;
                switch (code[i] - symbol) {
                    case 0: push(symbol); break;
                    case Formula.OF_NONE: push(valueOf(symbol)); break;
                    case Formula.OF_ONE: push(workOne(symbol, pop())); break;
                    default:
                        int right = pop();
                        int left = pop();
                        push(workTwo(symbol, left, right));
                }
            }
            return pop();
        }

        private void push(int value) {
            if (top < STACK) {
                stack[top] = value;
                top++;
            }
        }

        private int pop() {
            if (top <= 0) {
                return 0;
            }
            top--;
            return stack[top];
        }

        private int valueOf(int word) {
            return word >= 0 && word < OWN_WORDS ? values[word] : 0;
        }

        private int workOne(int word, int value) {
            switch (word) {
                case W_NOT: return 1 - value;
                case W_CARRY: return value >= 0 && value < NOTES ? reaches[value] : 0;
                case W_SCORE: return value >= 0 && value < places && value < PLACES_MOST ? score[value] : NONE;
                default: return 0;
            }
        }

        private static int workTwo(int symbol, int left, int right) {
            switch (symbol) {
                case '+': return cut((long) left + right);
                case '-': return cut((long) left - right);
                case '*': return cut((long) left * right);
                case '/': return right == 0 ? 0 : Math.floorDiv(left, right);
                case '<': return left < right ? 1 : 0;
                case '>': return left > right ? 1 : 0;
                case '=': return left == right ? 1 : 0;
                case W_MIN:
                case W_AND:
                    return Math.min(left, right);
                case W_MAX:
                case W_OR:
                    return Math.max(left, right);
                default: return 0;
            }
        }

        private static int cut(long value) {
            return value > MOST ? MOST : value < -MOST ? -MOST : (int) value;
        }
    }

    /** One BOAT taken out of the state, to be bowed in earnest or on trial. */
    private static final class Hull {
        static final int CARRY_MOST = 9;

        final Machine machine = new Machine();
        private Chart chart;
        int mile;
        int tight;
        int rosin;
        boolean sunk;
        int place;
        int notes;
        final int[] score = new int[PLACES_MOST];

        Hull(Chart chart) {
            this.chart = chart;
        }

        void load(Chart from, int[] state, int boat) {
            chart = from;
            if (boat < 0 || boat >= BOATS_MOST) {
                return;
            }
            int row = boat * ROW;
            mile = state[row + MILE];
            tight = state[row + TIGHT];
            rosin = state[row + ROSIN];
            sunk = state[row + SUNK] == 1;
            place = state[row + PLACE];
            notes = from.notes[boat];
            System.arraycopy(state, row + SCORE, score, 0, PLACES_MOST);
        }

        void store(int[] state, int boat) {
            if (boat < 0 || boat >= BOATS_MOST) {
                return;
            }
            int row = boat * ROW;
            state[row + MILE] = mile;
            state[row + TIGHT] = tight;
            state[row + ROSIN] = rosin;
            state[row + SUNK] = sunk ? 1 : 0;
            state[row + PLACE] = place;
        }

        boolean isLanded() {
            return mile == chart.last;
        }

        void change(int k, int note) {
            if (k >= 0 && k < PLACES_MOST) {
                score[k] = note;
            }
        }

        /** NONE without a score. */
        int nextNote() {
            return place >= 0 && place < notes && place < PLACES_MOST ? score[place] : NONE;
        }

        void show(int note, int wind) {
            machine.values[W_NOTE] = note;
            machine.values[W_TIGHT] = tight;
            machine.values[W_ROSIN] = rosin;
            machine.values[W_MILE] = mile;
            machine.values[W_WIND] = wind;
        }

        /** How far a NOTE carries it, not cut at either end. */
        int reach(int note, int wind) {
            if (chart.isWolf(mile, note)) {
                return 0;
            }
            show(note, wind);
            int far = machine.run(chart.code, chart.from[CARRY], chart.to[CARRY]);
            return Math.max(-CARRY_MOST, Math.min(CARRY_MOST, far));
        }

        void bow(int note, int wind) {
            int from = mile;
            mile = Math.max(0, Math.min(chart.last, mile + reach(note, wind)));
            show(note, wind);
            machine.values[W_WENT] = mile - from;
            if (!isLanded() && machine.run(chart.code, chart.from[SWAMP], chart.to[SWAMP]) == 1) {
                sunk = true;
            }
            int slipped = machine.run(chart.code, chart.from[SLIPS], chart.to[SLIPS]);
            tight = Math.max(0, Math.min(FULL, slipped));
            if (rosin > 0) {
                rosin--;
            }
        }

        /** An HOUR of it: the NOTE that it was bowed by, or SILENT. */
        int pass(int wind) {
            int note = nextNote();
            if (note == NONE || sunk || isLanded()) {
                return SILENT;
            }
            bow(note, wind);
            place = place + 1 < notes ? place + 1 : 0;
            return note;
        }

        /** Behind how many HOURS it is LANDED, of so many at the most. */
        int landsBehind(int most) {
            for (int k = 0; k <= most; k++) {
                if (isLanded()) {
                    return k;
                }
                if (k == most || pass(chart.wind) == SILENT) {
                    return NONE;
                }
            }
            return NONE;
        }

        /** The number of the HOUR, of the first so many, in which it SINKS. */
        int sinksIn(int hours) {
            for (int k = 0; k < hours; k++) {
                if (pass(chart.wind) == SILENT) {
                    return NONE;
                }
                if (sunk) {
                    return k;
                }
            }
            return NONE;
        }
    }

    /** The states ahead of the last ACTS. */
    private static final class Acts {
        private static final int MOST = 20;
        private final int[] states = new int[MOST * STATE];
        /** Where the next one goes. */
        private int next;
        int count;

        void keep(int[] state) {
            System.arraycopy(state, 0, states, next * STATE, STATE);
            next = next + 1 < MOST ? next + 1 : 0;
            count = Math.min(MOST, count + 1);
        }

        boolean takeBack(int[] state) {
            if (count == 0) {
                return false;
            }
            count--;
            next = next > 0 ? next - 1 : MOST - 1;
            System.arraycopy(states, next * STATE, state, 0, STATE);
            return true;
        }
    }

    /**
     * Looks for PLANS, row by row of one length more. BOATS that are alike behind like many NOTES
     * go on alike, so only the first row to each such one is followed.
     */
    private static final class Plans {
        private static final int NOTES_MOST = 5;
        /** 1 + 8 + 64 + 512 + 4096: all rows that can still have a NOTE behind them. */
        private static final int QUEUE = 4681;

        /** Mile, how tight, and the row of NOTES (three bits each) that leads there. */
        private final int[] queue = new int[QUEUE];
        private int tail;
        /** A bit for each tightness, two numbers for each mile. */
        private final long[] met = new long[MILES * 2];
        private int notes;
        private int row;

        /** How many NOTES, NONE without a PLAN; the BOAT is not SUNK. */
        int find(Hull hull, int wind, int target) {
            notes = 0;
            row = 0;
            if (hull.mile == target) {
                return 0;
            }
            if (hull.isLanded()) {
                return NONE;
            }
            int rosin = hull.rosin;
            queue[0] = pack(hull.mile, hull.tight, 0);
            tail = 1;
            int head = 0;
            for (int length = 1; length <= NOTES_MOST; length++) {
                notes = length;
                Arrays.fill(met, 0);
                int layerEnd = tail;
                for (; head < layerEnd; head++) {
                    if (follow(hull, wind, target, head, Math.max(0, rosin - length + 1))) {
                        return length;
                    }
                }
            }
            return NONE;
        }

        int noteAt(int k) {
            return k >= 0 && k < notes ? row >> 3 * (notes - 1 - k) & 7 : NONE;
        }

        private static int pack(int mile, int tight, int row) {
            return row << 13 | mile << 7 | tight;
        }

        /** Whether one NOTE more leads to the target. */
        private boolean follow(Hull hull, int wind, int target, int index, int rosin) {
            int from = index >= 0 && index < QUEUE ? queue[index] : 0;
            for (int note = 0; note < NOTES; note++) {
                hull.mile = from >> 7 & 63;
                hull.tight = from & 127;
                hull.rosin = rosin;
                hull.sunk = false;
                hull.bow(note, wind);
                int rowNow = from >> 13 << 3 | note;
                if (hull.sunk) {
                    continue;
                }
                if (hull.mile == target) {
                    row = rowNow;
                    return true;
                }
                // What is too far off for the NOTES that are left need not be followed.
                int left = NOTES_MOST - notes;
                if (!hull.isLanded() && Math.abs(hull.mile - target) <= left * Hull.CARRY_MOST) {
                    append(hull, rowNow);
                }
            }
            return false;
        }

        private void append(Hull hull, int rowNow) {
            int cell = hull.mile * 2 + hull.tight / 64;
            long bit = 1L << hull.tight % 64;
            if (tail >= QUEUE || cell < 0 || cell >= met.length) {
                return;
            }
            if ((met[cell] & bit) != 0) {
                return;
            }
            met[cell] |= bit;
            queue[tail] = pack(hull.mile, hull.tight, rowNow);
            tail++;
        }
    }

    /** Finds RIDES. */
    private static final class Ferry {
        private static final int SEATS = 2;
        /** The BOATS, as bits, that each RIDER can ride on. */
        final int[] fits = new int[RIDERS_MOST];
        final int[] row = new int[RIDERS_MOST];
        private final int[] taken = new int[BOATS_MOST];
        private int riders;
        /** How many RIDERS from each one on can ride at all; ends the search early. */
        private final int[] able = new int[RIDERS_MOST + 1];

        /** How many ride; the row tells on what. */
        int fill(int many) {
            riders = Math.max(0, Math.min(many, RIDERS_MOST));
            able[riders] = 0;
            for (int rider = riders - 1; rider >= 0; rider--) {
                able[rider] = able[rider + 1] + (fits[rider] != 0 ? 1 : 0);
            }
            for (int need = able[0]; need > 0; need--) {
                Arrays.fill(taken, 0);
                if (seat(0, need)) {
                    return need;
                }
            }
            Arrays.fill(row, NONE);
            return 0;
        }

        /** The first row, from this RIDER on, in which so many ride. */
        private boolean seat(int rider, int need) {
            if (rider < 0 || rider >= riders) {
                return need == 0;
            }
            if (need > able[rider]) {
                return false;
            }
            row[rider] = NONE;
            if (seat(rider + 1, need)) {
                return true;
            }
            for (int boat = 0; boat < BOATS_MOST && need > 0; boat++) {
                if ((fits[rider] >> boat & 1) == 0 || taken[boat] >= SEATS) {
                    continue;
                }
                row[rider] = boat;
                taken[boat]++;
                if (seat(rider + 1, need - 1)) {
                    return true;
                }
                taken[boat]--;
            }
            return false;
        }
    }

    /** What is SEEN, and which BOATS it tells of. */
    private static final class Heard {
        private static final int ROWS_MOST = 16;
        private static final int HOURS = 31;
        private final int[] seen = new int[ROWS_MOST * 2];
        int rows;
        /** By BOAT and HOUR; NONE for an HOUR that is none. */
        private final int[] heardNotes = new int[BOATS_MOST * HOURS];
        private int hoursThatCome;
        private final int[] counts = new int[NOTES + 1];
        int tellingHour;
        int tellingLeft;

        boolean take(int[] bytes, int size) {
            if (size < 2 || size > ROWS_MOST * 2 || size % 2 != 0 || size > bytes.length) {
                return false;
            }
            for (int i = 0; i < size; i += 2) {
                if (bytes[i] >= HOURS || bytes[i + 1] > SILENT) {
                    return false;
                }
            }
            System.arraycopy(bytes, 0, seen, 0, size);
            rows = size / 2;
            return true;
        }

        void listen(Hull hull, Chart chart, int[] state) {
            hoursThatCome = Math.min(HOURS, LAST_HOUR - state[HOUR]);
            Arrays.fill(heardNotes, NONE);
            for (int boat = 0; boat < chart.boats; boat++) {
                hull.load(chart, state, boat);
                for (int k = 0; k < hoursThatCome; k++) {
                    heardNotes[boat * HOURS + k] = hull.pass(chart.wind);
                }
            }
        }

        int fitting(int boats) {
            int bits = 0;
            for (int boat = 0; boat < boats; boat++) {
                if (fits(boat)) {
                    bits |= 1 << boat;
                }
            }
            return bits;
        }

        private boolean fits(int boat) {
            for (int r = 0; r < rows; r++) {
                if (heardNotes[boat * HOURS + seen[2 * r]] != seen[2 * r + 1]) {
                    return false;
                }
            }
            return true;
        }

        /** Finds TELLING for these BOATS; false when there is none. */
        boolean weigh(int bits) {
            tellingHour = NONE;
            tellingLeft = BOATS_MOST + 1;
            for (int k = 0; k < hoursThatCome && bits != 0; k++) {
                int left = mostLeft(bits, k);
                if (left < tellingLeft) {
                    tellingLeft = left;
                    tellingHour = k;
                }
            }
            return tellingHour != NONE;
        }

        private int mostLeft(int bits, int hour) {
            Arrays.fill(counts, 0);
            int most = 0;
            for (int boat = 0; boat < BOATS_MOST; boat++) {
                int note = heardNotes[boat * HOURS + hour];
                if ((bits >> boat & 1) == 1 && note >= 0 && note <= SILENT) {
                    counts[note]++;
                    most = Math.max(most, counts[note]);
                }
            }
            return most;
        }
    }

    /** IMAGES: written here, or read from the tape. */
    private static final class Picture {
        private static final int FIRST_CHECK = 193;
        final int[] bytes = new int[2 + BOATS_MOST * ROW + 1];
        int size;

        void write(Chart chart, int[] state) {
            bytes[0] = state[HOUR] / 256;
            bytes[1] = state[HOUR] % 256;
            size = 2;
            for (int boat = 0; boat < chart.boats; boat++) {
                int length = SCORE + chart.notes[boat];
                System.arraycopy(state, boat * ROW, bytes, size, length);
                size += length;
            }
            bytes[size] = check(bytes, size);
            size++;
        }

        private static int check(int[] row, int many) {
            int c = FIRST_CHECK;
            for (int i = 0; i < many && i < row.length; i++) {
                c = (3 * c + row[i]) % 251;
            }
            return c;
        }

        private static int lengthFor(Chart chart) {
            int length = 3;
            for (int boat = 0; boat < chart.boats; boat++) {
                length += SCORE + chart.notes[boat];
            }
            return length;
        }

        static boolean isOf(int[] row, int many, Chart chart) {
            int length = lengthFor(chart);
            if (many != length || length > row.length || row[length - 1] != check(row, length - 1)) {
                return false;
            }
            if (row[0] * 256 + row[1] > LAST_HOUR) {
                return false;
            }
            int from = 2;
            for (int boat = 0; boat < chart.boats; boat++) {
                if (!isBoatRow(row, from, chart, chart.notes[boat])) {
                    return false;
                }
                from += SCORE + chart.notes[boat];
            }
            return true;
        }

        private static boolean isBoatRow(int[] row, int from, Chart chart, int notes) {
            if (from < 0 || from + SCORE + notes > row.length) {
                return false;
            }
            int mile = row[from + MILE];
            int sunk = row[from + SUNK];
            if (mile > chart.last || row[from + TIGHT] > FULL || row[from + ROSIN] > FULL) {
                return false;
            }
            if (sunk > 1 || sunk == 1 && mile == chart.last) {
                return false;
            }
            if (row[from + PLACE] > Math.max(0, notes - 1)) {
                return false;
            }
            for (int k = 0; k < notes; k++) {
                if (row[from + SCORE + k] >= NOTES) {
                    return false;
                }
            }
            return true;
        }

        /** Only what isOf has found to be one. */
        static void read(int[] row, Chart chart, int[] state) {
            state[HOUR] = row[0] * 256 + row[1];
            int from = 2;
            for (int boat = 0; boat < chart.boats; boat++) {
                int length = SCORE + chart.notes[boat];
                System.arraycopy(row, from, state, boat * ROW, length);
                from += length;
            }
        }
    }
}
