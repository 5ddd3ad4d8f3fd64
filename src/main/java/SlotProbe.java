/**
 * Slotted casing down a slope, read by a wheeled probe.
 *
 * Every row is made in a constructor and used again: a call makes nothing but the exception that it throws.
 */
public final class SlotProbe {

    /** There is nothing to return. */
    public static final int NONE = -1;

    private static final int LEVELS = 16;
    private static final int HEAD = LEVELS - 1;
    private static final int PLANES = 2;
    private static final int FACES = 2;
    private static final int TURNS = 4;
    private static final int ROW = LEVELS * PLANES;
    private static final int READINGS = ROW * FACES;
    private static final int SURVEYS = 6;
    private static final int MIDDLE = 7;

    private static final int MOST_TILT = 99;
    private static final int MOST_BIAS = 50;
    private static final int MOST_SPOILED_BY = 99;
    private static final int MOST_READING = 900;
    private static final int MOST_DAYS = 99;
    private static final int LAST_DAY = 9999;
    private static final int MOST_MOVED = 999;

    private static final int CHECKS_OFF = 0;
    private static final int MENDED = 1;
    private static final int TURNS_OUT = 2;
    private static final int SETTINGS = 3;
    private static final int MOST_CHECKS_OFF = 99;

    private static final int BUFFER = 60;
    private static final int FIRST_SIGN = 33;
    private static final int LAST_SIGN = 126;
    private static final int SLOTS = 2;
    private static final int SAVED = 6;

    private static final int LEVEL_NUMBERS = 7;
    private static final int READING_NUMBERS = 6;
    private static final int SURVEY_NUMBERS = 5;
    private static final int COUNTS = 8;

    private static final long DIGEST_START = 3533;
    private static final int DIGEST_MOVED_BY = 5;

    private final State now;
    private final State[] slots;
    private final boolean[] slotHolds;
    private final History history;
    private final Findings findings;
    private final TextReader reader;
    private final char[] buffer;
    private int bufferLength;

    public SlotProbe() {
        now = new State();
        slots = new State[SLOTS];
        for (int slot = 0; slot < SLOTS; slot++) {
            slots[slot] = new State();
        }
        slotHolds = new boolean[SLOTS];
        history = new History();
        findings = new Findings();
        reader = new TextReader();
        buffer = new char[BUFFER];
        bufferLength = 0;
    }

    // ---- the casing, the probe

    public int bend(int level, int plane, int tilt) throws IndexOutOfBoundsException, IllegalArgumentException {
        needIndex(level, LEVELS);
        needIndex(plane, PLANES);
        needRange(tilt, -MOST_TILT, MOST_TILT);
        beginChange();
        int before = now.tilts[level * PLANES + plane];
        now.tilts[level * PLANES + plane] = tilt;
        return before;
    }

    public int slide(int level, int plane, int by) throws IndexOutOfBoundsException, IllegalArgumentException {
        needIndex(level, LEVELS);
        needIndex(plane, PLANES);
        needRange(by, -MOST_TILT, MOST_TILT);
        beginChange();
        int wanted = now.tilts[level * PLANES + plane] + by;
        int tilt = Math.max(-MOST_TILT, Math.min(MOST_TILT, wanted));
        now.tilts[level * PLANES + plane] = tilt;
        return tilt;
    }

    public int turn(int level, int turn) throws IndexOutOfBoundsException, IllegalArgumentException {
        needIndex(level, LEVELS);
        needRange(turn, 0, TURNS - 1);
        beginChange();
        int before = now.turns[level];
        now.turns[level] = turn;
        return before;
    }

    public int bias(int own, int bias) throws IndexOutOfBoundsException, IllegalArgumentException {
        needIndex(own, PLANES);
        needRange(bias, -MOST_BIAS, MOST_BIAS);
        beginChange();
        int before = now.biases[own];
        now.biases[own] = bias;
        return before;
    }

    public int set(int setting, int value) throws IndexOutOfBoundsException, IllegalArgumentException {
        needIndex(setting, SETTINGS);
        needRange(value, 0, setting == CHECKS_OFF ? MOST_CHECKS_OFF : 1);
        beginChange();
        int before = now.settings[setting];
        now.settings[setting] = value;
        return before;
    }

    // ---- surveys

    public int pass(int days) throws IllegalArgumentException, IllegalStateException {
        needRange(days, 1, MOST_DAYS);
        needState(now.day + days <= LAST_DAY);
        beginChange();
        now.day += days;
        return now.day;
    }

    public int survey() throws IllegalStateException {
        needState(now.surveys < SURVEYS);
        beginChange();
        int taken = now.surveys;
        for (int level = 0; level < LEVELS; level++) {
            for (int own = 0; own < PLANES; own++) {
                for (int face = 0; face < FACES; face++) {
                    now.readings[readingAt(taken, level, own, face)] = probeReads(level, own, face);
                }
            }
        }
        now.days[taken] = now.day;
        now.surveys++;
        now.surveysTaken++;
        return taken;
    }

    public int drop() throws IllegalStateException {
        needState(now.surveys > 0);
        beginChange();
        now.surveys--;
        return now.surveys;
    }

    public int spoil(int level, int own, int face, int by)
            throws IndexOutOfBoundsException, IllegalArgumentException, IllegalStateException {
        needIndex(level, LEVELS);
        needIndex(own, PLANES);
        needIndex(face, FACES);
        needRange(by, -MOST_SPOILED_BY, MOST_SPOILED_BY);
        needState(now.surveys > 0);
        int at = readingAt(now.surveys - 1, level, own, face);
        int spoiled = now.readings[at] + by;
        needState(isWithin(spoiled, -MOST_READING, MOST_READING));
        beginChange();
        now.readings[at] = spoiled;
        now.readingsSpoiled++;
        return spoiled;
    }

    // ---- texts, snapshots

    public int append(int code) throws IllegalArgumentException, IllegalStateException {
        needRange(code, FIRST_SIGN, LAST_SIGN);
        needState(bufferLength < BUFFER);
        buffer[bufferLength] = (char) code;
        bufferLength++;
        return bufferLength;
    }

    public int clearBuffer() {
        int before = bufferLength;
        bufferLength = 0;
        return before;
    }

    public int firstError() {
        reader.begin();
        for (int i = 0; i < bufferLength; i++) {
            if (!reader.takes(buffer[i])) {
                return i;
            }
        }
        return bufferLength;
    }

    public int load() throws IllegalStateException, IllegalArgumentException {
        needState(now.surveys > 0);
        needText(bufferTellsReadings());
        beginChange();
        int told = putReadings(now.surveys - 1);
        now.readingsSpoiled += told;
        bufferLength = 0;
        return told;
    }

    public int keep(int slot) throws IllegalArgumentException {
        needRange(slot, 0, SLOTS - 1);
        slots[slot].become(now);
        slotHolds[slot] = true;
        return now.surveys;
    }

    public int goBack(int slot) throws IllegalArgumentException, IllegalStateException {
        needRange(slot, 0, SLOTS - 1);
        needState(slotHolds[slot]);
        beginChange();
        now.become(slots[slot]);
        return now.surveys;
    }

    public int undo() throws IllegalStateException {
        needState(history.saved > 0);
        history.bringBack(now);
        findings.fresh = false;
        return history.saved;
    }

    // ---- looks; nothing is changed

    public int levelOf(int level, int what) throws IndexOutOfBoundsException, IllegalArgumentException {
        needIndex(level, LEVELS);
        needRange(what, 0, LEVEL_NUMBERS - 1);
        switch (what) {
            case 0:
                return now.tilts[level * PLANES];
            case 1:
                return now.tilts[level * PLANES + 1];
            case 2:
                return now.turns[level];
            case 3:
                return probeReads(level, 0, 0);
            case 4:
                return probeReads(level, 0, 1);
            case 5:
                return probeReads(level, 1, 0);
            default:
                return probeReads(level, 1, 1);
        }
    }

    public int reading(int survey, int level, int own, int what)
            throws IndexOutOfBoundsException, IllegalArgumentException {
        needIndex(survey, now.surveys);
        needIndex(level, LEVELS);
        needIndex(own, PLANES);
        needRange(what, 0, READING_NUMBERS - 1);
        findings.workOut(now);
        switch (what) {
            case 0:
                return now.readings[readingAt(survey, level, own, 0)];
            case 1:
                return now.readings[readingAt(survey, level, own, 1)];
            case 2:
                return checkOf(now, survey, level, own);
            case 3:
                return findings.isSuspicious(now, survey, level, own) ? 1 : 0;
            case 4:
                return findings.read[tiltAt(survey, level, own)];
            default:
                return findings.told[tiltAt(survey, level, own)];
        }
    }

    public int surveyOf(int survey, int what) throws IndexOutOfBoundsException, IllegalArgumentException {
        needIndex(survey, now.surveys);
        needRange(what, 0, SURVEY_NUMBERS - 1);
        findings.workOut(now);
        switch (what) {
            case 0:
                return now.days[survey];
            case 1:
                return findings.commons[survey * PLANES];
            case 2:
                return findings.commons[survey * PLANES + 1];
            case 3:
                return suspiciousTilts(survey);
            default:
                return levelFarthestOff(survey);
        }
    }

    public int place(int survey, int level, int plane, int what)
            throws IndexOutOfBoundsException, IllegalArgumentException {
        needIndex(survey, now.surveys);
        needIndex(level, LEVELS);
        needIndex(plane, PLANES);
        needRange(what, 0, 1);
        findings.workOut(now);
        if (what == 0) {
            return toldTogether(survey, plane, 0, level);
        }
        return toldTogether(survey, plane, 0, HEAD) - toldTogether(survey, plane, level + 1, HEAD);
    }

    public int count(int what) throws IllegalArgumentException {
        needRange(what, 0, COUNTS - 1);
        switch (what) {
            case 0:
                return now.day;
            case 1:
                return now.surveys;
            case 2:
                return now.biases[0];
            case 3:
                return now.biases[1];
            case 4:
                return now.surveysTaken;
            case 5:
                return now.readingsSpoiled;
            case 6:
                return turnedLevels();
            default:
                return history.saved;
        }
    }

    public int setting(int setting) throws IndexOutOfBoundsException {
        needIndex(setting, SETTINGS);
        return now.settings[setting];
    }

    // ---- movements; nothing is changed

    public int moved(int first, int second, int level, int plane) throws IndexOutOfBoundsException {
        needIndex(first, now.surveys);
        needIndex(second, now.surveys);
        needIndex(level, LEVELS);
        needIndex(plane, PLANES);
        findings.workOut(now);
        return movedUpTo(first, second, level, plane);
    }

    public int slidesAt(int first, int second, int plane) throws IndexOutOfBoundsException {
        needIndex(first, now.surveys);
        needIndex(second, now.surveys);
        needIndex(plane, PLANES);
        findings.workOut(now);
        int most = 0;
        int found = NONE;
        for (int level = 0; level < LEVELS; level++) {
            int differs = Math.abs(slidBetween(first, second, level, plane));
            if (differs > most) {
                most = differs;
                found = level;
            }
        }
        return found;
    }

    public int firstMoved(int first, int second, int plane, int by)
            throws IndexOutOfBoundsException, IllegalArgumentException {
        needIndex(first, now.surveys);
        needIndex(second, now.surveys);
        needIndex(plane, PLANES);
        needRange(by, 1, MOST_MOVED);
        findings.workOut(now);
        int movement = 0;
        for (int level = 0; level < LEVELS; level++) {
            movement += slidBetween(first, second, level, plane);
            if (Math.abs(movement) >= by) {
                return level;
            }
        }
        return NONE;
    }

    public double speed(int first, int second, int plane) throws IndexOutOfBoundsException {
        needIndex(first, now.surveys);
        needIndex(second, now.surveys);
        needIndex(plane, PLANES);
        int days = now.days[second] - now.days[first];
        if (days == 0) {
            return 0.0;
        }
        findings.workOut(now);
        return (double) movedUpTo(first, second, HEAD, plane) / days;
    }

    public float meanCheck(int survey, int own) throws IndexOutOfBoundsException {
        needIndex(survey, now.surveys);
        needIndex(own, PLANES);
        int sum = 0;
        for (int level = 0; level < LEVELS; level++) {
            sum += checkOf(now, survey, level, own);
        }
        return (float) sum / LEVELS;
    }

    public double spread(int survey, int own) throws IndexOutOfBoundsException {
        needIndex(survey, now.surveys);
        needIndex(own, PLANES);
        long sum = 0;
        long squares = 0;
        for (int level = 0; level < LEVELS; level++) {
            long check = checkOf(now, survey, level, own);
            sum += check;
            squares += check * check;
        }
        return (double) (LEVELS * squares - sum * sum) / (LEVELS * LEVELS);
    }

    public long digest() {
        long hash = digestOfCasing(DIGEST_START);
        for (int survey = 0; survey < now.surveys; survey++) {
            hash = digestOfSurvey(hash, survey);
        }
        for (int survey = 1; survey < now.surveys; survey++) {
            for (int plane = 0; plane < PLANES; plane++) {
                hash = mixed(hash, slidesAt(0, survey, plane));
                hash = mixed(hash, firstMoved(0, survey, plane, DIGEST_MOVED_BY));
                hash = mixed(hash, bitsOfDouble(speed(0, survey, plane)));
            }
        }
        return digestOfTexts(hash);
    }

    // ---- the tests that throw

    private static boolean isWithin(int value, int least, int most) {
        return value >= least && value <= most;
    }

    private static void needIndex(int index, int size) {
        if (index < 0 || index >= size) {
            throw new IndexOutOfBoundsException("there is no such number");
        }
    }

    private static void needRange(int value, int least, int most) {
        if (!isWithin(value, least, most)) {
            throw new IllegalArgumentException("out of range");
        }
    }

    private static void needText(boolean tellsReadings) {
        if (!tellsReadings) {
            throw new IllegalArgumentException("the buffer does not tell readings");
        }
    }

    private static void needState(boolean stands) {
        if (!stands) {
            throw new IllegalStateException("not in this state");
        }
    }

    // ---- where numbers stand in their rows

    private static int readingAt(int survey, int level, int own, int face) {
        return survey * READINGS + level * PLANES * FACES + own * FACES + face;
    }

    private static int tiltAt(int survey, int level, int plane) {
        return survey * ROW + level * PLANES + plane;
    }

    // ---- the casing and its surveys

    /** Comes ahead of every undoable change, so what was worked out before it is out of date from here on. */
    private void beginChange() {
        history.save(now);
        findings.fresh = false;
    }

    /** What is met, in one of two directions, by turning the tilts of the directions 0 and 1 by quarters. */
    private static int turnedTilt(int quarters, int tilt0, int tilt1, int direction) {
        switch (quarters) {
            case 0:
                return direction == 0 ? tilt0 : tilt1;
            case 1:
                return direction == 0 ? tilt1 : -tilt0;
            case 2:
                return direction == 0 ? -tilt0 : -tilt1;
            default:
                return direction == 0 ? -tilt1 : tilt0;
        }
    }

    private int probeReads(int level, int own, int face) {
        int at = level * PLANES;
        int tilt = turnedTilt(now.turns[level], now.tilts[at], now.tilts[at + 1], own);
        return face == 0 ? now.biases[own] + tilt : now.biases[own] - tilt;
    }

    private static int checkOf(State state, int survey, int level, int own) {
        int at = readingAt(survey, level, own, 0);
        return state.readings[at] + state.readings[at + 1];
    }

    private int turnedLevels() {
        int turned = 0;
        for (int level = 0; level < LEVELS; level++) {
            if (now.turns[level] != 0) {
                turned++;
            }
        }
        return turned;
    }

    private int suspiciousTilts(int survey) {
        int suspicious = 0;
        for (int level = 0; level < LEVELS; level++) {
            for (int own = 0; own < PLANES; own++) {
                if (findings.isSuspicious(now, survey, level, own)) {
                    suspicious++;
                }
            }
        }
        return suspicious;
    }

    private int levelFarthestOff(int survey) {
        int most = 0;
        int found = 0;
        for (int level = 0; level < LEVELS; level++) {
            for (int own = 0; own < PLANES; own++) {
                int off = findings.off[tiltAt(survey, level, own)];
                if (off > most) {
                    most = off;
                    found = level;
                }
            }
        }
        return found;
    }

    private int toldTogether(int survey, int plane, int from, int to) {
        int sum = 0;
        for (int level = from; level <= to; level++) {
            sum += findings.told[tiltAt(survey, level, plane)];
        }
        return sum;
    }

    private int slidBetween(int first, int second, int level, int plane) {
        return findings.told[tiltAt(second, level, plane)] - findings.told[tiltAt(first, level, plane)];
    }

    private int movedUpTo(int first, int second, int level, int plane) {
        return toldTogether(second, plane, 0, level) - toldTogether(first, plane, 0, level);
    }

    // ---- readings as texts

    private boolean bufferTellsReadings() {
        return firstError() == bufferLength && reader.mayEnd();
    }

    private int putReadings(int survey) {
        int told = 0;
        reader.begin();
        for (int i = 0; i < bufferLength; i++) {
            reader.takes(buffer[i]);
            if (i + 1 == bufferLength || buffer[i + 1] == ';') {
                now.readings[readingAt(survey, reader.level, reader.own, reader.face)] = reader.readingTold();
                told++;
            }
        }
        return told;
    }

    // ---- the digest

    private static long mixed(long hash, long value) {
        return 31 * hash + value;
    }

    private long digestOfCasing(long start) {
        long hash = start;
        for (int what = 0; what < COUNTS; what++) {
            hash = mixed(hash, count(what));
        }
        for (int at = 0; at < SETTINGS; at++) {
            hash = mixed(hash, now.settings[at]);
        }
        for (int level = 0; level < LEVELS; level++) {
            for (int what = 0; what < LEVEL_NUMBERS; what++) {
                hash = mixed(hash, levelOf(level, what));
            }
        }
        return hash;
    }

    private long digestOfSurvey(long start, int survey) {
        long hash = start;
        for (int what = 0; what < SURVEY_NUMBERS; what++) {
            hash = mixed(hash, surveyOf(survey, what));
        }
        for (int level = 0; level < LEVELS; level++) {
            for (int own = 0; own < PLANES; own++) {
                for (int what = 0; what < READING_NUMBERS; what++) {
                    hash = mixed(hash, reading(survey, level, own, what));
                }
                hash = mixed(hash, place(survey, level, own, 0));
                hash = mixed(hash, place(survey, level, own, 1));
            }
        }
        for (int own = 0; own < PLANES; own++) {
            hash = mixed(hash, bitsOfFloat(meanCheck(survey, own)));
            hash = mixed(hash, bitsOfDouble(spread(survey, own)));
        }
        return hash;
    }

    private long digestOfTexts(long start) {
        long hash = start;
        for (int slot = 0; slot < SLOTS; slot++) {
            hash = mixed(hash, slotHolds[slot] ? 1 : 0);
        }
        hash = mixed(hash, bufferLength);
        for (int i = 0; i < bufferLength; i++) {
            hash = mixed(hash, buffer[i]);
        }
        return hash;
    }

    /** The language of this file has no Double.doubleToLongBits, so the bits are put together by arithmetic. */
    private static long bitsOfDouble(double value) {
        if (value < 0) {
            return Long.MIN_VALUE | bitsOfMagnitude(-value, 1023, 52);
        }
        return bitsOfMagnitude(value, 1023, 52);
    }

    private static int bitsOfFloat(float value) {
        if (value < 0) {
            return Integer.MIN_VALUE | (int) bitsOfMagnitude(-value, 127, 23);
        }
        return (int) bitsOfMagnitude(value, 127, 23);
    }

    /**
     * Halving and doubling are exact here: the digest's numbers are 0 or between 1/9999 and some four millions,
     * so few steps reach 1 and none comes near the bounds of a type. None of them is -0.0, as days never go back.
     */
    private static long bitsOfMagnitude(double magnitude, int exponentOfOne, int width) {
        if (magnitude <= 0) {
            return 0;
        }
        double rest = magnitude;
        long exponent = exponentOfOne;
        for (int step = 0; step < 100 && rest >= 2; step++) {
            rest = rest / 2;
            exponent++;
        }
        for (int step = 0; step < 100 && rest < 1; step++) {
            rest = rest * 2;
            exponent--;
        }
        return (exponent << width) + (long) ((rest - 1) * (double) (1L << width));
    }

    /** All that a snapshot or a saved state holds. */
    private static final class State {
        final int[] tilts;
        final int[] turns;
        final int[] biases;
        final int[] settings;
        final int[] readings;
        final int[] days;
        int day;
        int surveys;
        int surveysTaken;
        int readingsSpoiled;

        State() {
            tilts = new int[ROW];
            turns = new int[LEVELS];
            biases = new int[PLANES];
            settings = new int[SETTINGS];
            settings[CHECKS_OFF] = 2;
            settings[MENDED] = 1;
            settings[TURNS_OUT] = 1;
            readings = new int[SURVEYS * READINGS];
            days = new int[SURVEYS];
            day = 0;
            surveys = 0;
            surveysTaken = 0;
            readingsSpoiled = 0;
        }

        void become(State other) {
            System.arraycopy(other.tilts, 0, tilts, 0, ROW);
            System.arraycopy(other.turns, 0, turns, 0, LEVELS);
            System.arraycopy(other.biases, 0, biases, 0, PLANES);
            System.arraycopy(other.settings, 0, settings, 0, SETTINGS);
            System.arraycopy(other.readings, 0, readings, 0, SURVEYS * READINGS);
            System.arraycopy(other.days, 0, days, 0, SURVEYS);
            day = other.day;
            surveys = other.surveys;
            surveysTaken = other.surveysTaken;
            readingsSpoiled = other.readingsSpoiled;
        }
    }

    /** The saved states in a ring, so that dropping the oldest one moves none. */
    private static final class History {
        final State[] ring;
        int oldest;
        int saved;

        History() {
            ring = new State[SAVED];
            for (int i = 0; i < SAVED; i++) {
                ring[i] = new State();
            }
            oldest = 0;
            saved = 0;
        }

        void save(State state) {
            if (saved == SAVED) {
                oldest = (oldest + 1) % SAVED;
                saved--;
            }
            ring[(oldest + saved) % SAVED].become(state);
            saved++;
        }

        void bringBack(State state) {
            saved--;
            state.become(ring[(oldest + saved) % SAVED]);
        }
    }

    /** What all surveys of a state tell, worked out at the first look after a change. */
    private static final class Findings {
        final int[] commons;
        final int[] off;
        final int[] read;
        final int[] told;
        final int[] ordered;
        boolean fresh;

        Findings() {
            commons = new int[SURVEYS * PLANES];
            off = new int[SURVEYS * ROW];
            read = new int[SURVEYS * ROW];
            told = new int[SURVEYS * ROW];
            ordered = new int[LEVELS];
            fresh = false;
        }

        /** Goes by surveys upwards, as a mended tilt leans on the one that the survey ahead tells. */
        void workOut(State state) {
            if (fresh) {
                return;
            }
            for (int survey = 0; survey < state.surveys; survey++) {
                for (int own = 0; own < PLANES; own++) {
                    commons[survey * PLANES + own] = commonCheck(state, survey, own);
                }
                for (int level = 0; level < LEVELS; level++) {
                    for (int own = 0; own < PLANES; own++) {
                        int common = commons[survey * PLANES + own];
                        off[tiltAt(survey, level, own)] = Math.abs(checkOf(state, survey, level, own) - common);
                        read[tiltAt(survey, level, own)] = tiltRead(state, survey, level, own);
                    }
                    tellLevel(state, survey, level);
                }
            }
            fresh = true;
        }

        int commonCheck(State state, int survey, int own) {
            for (int level = 0; level < LEVELS; level++) {
                int check = checkOf(state, survey, level, own);
                int at = level;
                while (at > 0 && ordered[at - 1] > check) {
                    ordered[at] = ordered[at - 1];
                    at--;
                }
                ordered[at] = check;
            }
            return ordered[MIDDLE];
        }

        boolean isSuspicious(State state, int survey, int level, int own) {
            return off[tiltAt(survey, level, own)] > state.settings[CHECKS_OFF];
        }

        int tiltRead(State state, int survey, int level, int own) {
            int at = readingAt(survey, level, own, 0);
            int face0 = state.readings[at];
            int face1 = state.readings[at + 1];
            if (state.settings[MENDED] != 1 || !isSuspicious(state, survey, level, own)) {
                return (face0 - face1) / 2;
            }
            int halfCommon = commons[survey * PLANES + own] / 2;
            int byFace0 = face0 - halfCommon;
            int byFace1 = halfCommon - face1;
            if (survey == 0) {
                return byFace0;
            }
            int ahead = read[tiltAt(survey - 1, level, own)];
            return Math.abs(byFace1 - ahead) < Math.abs(byFace0 - ahead) ? byFace1 : byFace0;
        }

        /** A turn is taken out by turning on to the full four quarters. */
        void tellLevel(State state, int survey, int level) {
            int quarters = state.settings[TURNS_OUT] == 1 ? (TURNS - state.turns[level]) % TURNS : 0;
            int at = tiltAt(survey, level, 0);
            for (int plane = 0; plane < PLANES; plane++) {
                told[at + plane] = turnedTilt(quarters, read[at], read[at + 1], plane);
            }
        }
    }

    /** Reads readings as a text, sign by sign. */
    private static final class TextReader {
        private static final int BEFORE_LEVEL = 0;
        private static final int IN_LEVEL = 1;
        private static final int AFTER_OWN = 2;
        private static final int AFTER_FACE = 3;
        private static final int AFTER_EQUALS = 4;
        private static final int AFTER_MINUS = 5;
        private static final int IN_NUMBER = 6;
        private static final int MOST_NUMBER = 200;

        int step;
        int level;
        int own;
        int face;
        int number;
        boolean below;

        TextReader() {
            step = BEFORE_LEVEL;
            level = 0;
            own = 0;
            face = 0;
            number = 0;
            below = false;
        }

        void begin() {
            step = BEFORE_LEVEL;
        }

        /** Whether the signs taken since begin() are a whole text. */
        boolean mayEnd() {
            return step == IN_NUMBER;
        }

        int readingTold() {
            return below ? -number : number;
        }

        /** Tells whether a text may go on with this sign; only then it is taken. */
        boolean takes(char sign) {
            switch (step) {
                case BEFORE_LEVEL:
                    return takesFirstOfLevel(sign);
                case IN_LEVEL:
                    return takesInLevel(sign);
                case AFTER_OWN:
                    return takesFace(sign);
                case AFTER_FACE:
                    return takesEquals(sign);
                case AFTER_EQUALS:
                    return takesFirstOfReading(sign);
                case AFTER_MINUS:
                    return sign != '0' && takesFirstOfNumber(sign);
                default:
                    return takesInNumber(sign);
            }
        }

        static boolean isDigit(char sign) {
            return sign >= '0' && sign <= '9';
        }

        boolean takesFirstOfLevel(char sign) {
            if (!isDigit(sign)) {
                return false;
            }
            level = sign - '0';
            step = IN_LEVEL;
            return true;
        }

        boolean takesInLevel(char sign) {
            if (sign == 'a' || sign == 'b') {
                own = sign - 'a';
                step = AFTER_OWN;
                return true;
            }
            if (!isDigit(sign) || level == 0 || level * 10 + (sign - '0') >= LEVELS) {
                return false;
            }
            level = level * 10 + (sign - '0');
            return true;
        }

        boolean takesFace(char sign) {
            if (sign != '+' && sign != '-') {
                return false;
            }
            face = sign == '+' ? 0 : 1;
            step = AFTER_FACE;
            return true;
        }

        boolean takesEquals(char sign) {
            if (sign != '=') {
                return false;
            }
            step = AFTER_EQUALS;
            return true;
        }

        boolean takesFirstOfReading(char sign) {
            below = sign == '-';
            if (below) {
                step = AFTER_MINUS;
                return true;
            }
            return takesFirstOfNumber(sign);
        }

        boolean takesFirstOfNumber(char sign) {
            if (!isDigit(sign)) {
                return false;
            }
            number = sign - '0';
            step = IN_NUMBER;
            return true;
        }

        boolean takesInNumber(char sign) {
            if (sign == ';') {
                step = BEFORE_LEVEL;
                return true;
            }
            if (!isDigit(sign) || number == 0 || number * 10 + (sign - '0') > MOST_NUMBER) {
                return false;
            }
            number = number * 10 + (sign - '0');
            return true;
        }
    }
}
