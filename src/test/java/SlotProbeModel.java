import java.util.ArrayDeque;
import java.util.ArrayList;
import java.util.Arrays;
import java.util.Deque;
import java.util.HashSet;
import java.util.List;
import java.util.Random;
import java.util.Set;

/** Random runs of calls, each answer held against a model that follows the document word by word. */
public final class SlotProbeModel {

    static final int RUNS = 600;
    static final int CALLS = 500;
    static final Set<String> BEGINNINGS = new HashSet<>();
    static final Set<String> WHOLE = new HashSet<>();

    static int wrong = 0;

    static {
        for (int level = 0; level <= 15; level++) {
            for (String sign : new String[] {"a+", "a-", "b+", "b-"}) {
                for (int number = -200; number <= 200; number++) {
                    String text = level + sign + "=" + number;
                    WHOLE.add(text);
                    for (int end = 0; end <= text.length(); end++) {
                        BEGINNINGS.add(text.substring(0, end));
                    }
                }
            }
        }
    }

    /** A survey with all that it keeps. */
    static final class Taken {
        int day;
        int[][][] readings = new int[16][2][2];

        Taken copy() {
            Taken other = new Taken();
            other.day = day;
            for (int level = 0; level < 16; level++) {
                for (int own = 0; own < 2; own++) {
                    other.readings[level][own] = readings[level][own].clone();
                }
            }
            return other;
        }

        int check(int level, int own) {
            return readings[level][own][0] + readings[level][own][1];
        }

        int common(int own) {
            int[] checks = new int[16];
            for (int level = 0; level < 16; level++) {
                checks[level] = check(level, own);
            }
            Arrays.sort(checks);
            return checks[7];
        }
    }

    /** All but the buffer, the slots and the saved states. */
    static final class Whole {
        int[][] tilts = new int[16][2];
        int[] turns = new int[16];
        int[] biases = new int[2];
        int[] settings = {2, 1, 1};
        int day;
        int taken;
        int spoiled;
        List<Taken> surveys = new ArrayList<>();

        Whole copy() {
            Whole other = new Whole();
            for (int level = 0; level < 16; level++) {
                other.tilts[level] = tilts[level].clone();
            }
            other.turns = turns.clone();
            other.biases = biases.clone();
            other.settings = settings.clone();
            other.day = day;
            other.taken = taken;
            other.spoiled = spoiled;
            for (Taken survey : surveys) {
                other.surveys.add(survey.copy());
            }
            return other;
        }
    }

    Whole now = new Whole();
    Whole[] slots = new Whole[2];
    Deque<Whole> saved = new ArrayDeque<>();
    String buffer = "";

    // ---- the model

    static void index(int value, int size) {
        if (value < 0 || value >= size) throw new IndexOutOfBoundsException();
    }

    static void range(int value, int least, int most) {
        if (value < least || value > most) throw new IllegalArgumentException();
    }

    static void state(boolean stands) {
        if (!stands) throw new IllegalStateException();
    }

    void save() {
        saved.addLast(now.copy());
        if (saved.size() > 6) saved.removeFirst();
    }

    int bend(int level, int plane, int tilt) {
        index(level, 16);
        index(plane, 2);
        range(tilt, -99, 99);
        save();
        int before = now.tilts[level][plane];
        now.tilts[level][plane] = tilt;
        return before;
    }

    int slide(int level, int plane, int by) {
        index(level, 16);
        index(plane, 2);
        range(by, -99, 99);
        save();
        int tilt = now.tilts[level][plane] + by;
        if (tilt > 99) tilt = 99;
        if (tilt < -99) tilt = -99;
        return now.tilts[level][plane] = tilt;
    }

    int turn(int level, int turn) {
        index(level, 16);
        range(turn, 0, 3);
        save();
        int before = now.turns[level];
        now.turns[level] = turn;
        return before;
    }

    int bias(int own, int bias) {
        index(own, 2);
        range(bias, -50, 50);
        save();
        int before = now.biases[own];
        now.biases[own] = bias;
        return before;
    }

    int set(int setting, int value) {
        index(setting, 3);
        range(value, 0, new int[] {99, 1, 1}[setting]);
        save();
        int before = now.settings[setting];
        now.settings[setting] = value;
        return before;
    }

    int pass(int days) {
        range(days, 1, 99);
        state(now.day + days <= 9999);
        save();
        return now.day += days;
    }

    int own(int level, int own) {
        int a = now.tilts[level][0];
        int b = now.tilts[level][1];
        int[][] met = {{a, b}, {b, -a}, {-a, -b}, {-b, a}};
        return met[now.turns[level]][own];
    }

    int reads(int level, int own, int face) {
        return face == 0 ? own(level, own) + now.biases[own] : now.biases[own] - own(level, own);
    }

    int survey() {
        state(now.surveys.size() < 6);
        save();
        Taken survey = new Taken();
        survey.day = now.day;
        for (int level = 0; level < 16; level++) {
            for (int own = 0; own < 2; own++) {
                survey.readings[level][own][0] = reads(level, own, 0);
                survey.readings[level][own][1] = reads(level, own, 1);
            }
        }
        now.surveys.add(survey);
        now.taken++;
        return now.surveys.size() - 1;
    }

    int drop() {
        state(now.surveys.size() > 0);
        save();
        now.surveys.remove(now.surveys.size() - 1);
        return now.surveys.size();
    }

    Taken latest() {
        return now.surveys.get(now.surveys.size() - 1);
    }

    int spoil(int level, int own, int face, int by) {
        index(level, 16);
        index(own, 2);
        index(face, 2);
        range(by, -99, 99);
        state(now.surveys.size() > 0);
        int spoiled = latest().readings[level][own][face] + by;
        state(spoiled <= 900 && spoiled >= -900);
        save();
        now.spoiled++;
        return latest().readings[level][own][face] = spoiled;
    }

    int append(int code) {
        range(code, 33, 126);
        state(buffer.length() < 60);
        buffer += (char) code;
        return buffer.length();
    }

    int clearBuffer() {
        int before = buffer.length();
        buffer = "";
        return before;
    }

    static boolean begins(String text) {
        String[] parts = text.split(";", -1);
        for (int i = 0; i + 1 < parts.length; i++) {
            if (!WHOLE.contains(parts[i])) return false;
        }
        return BEGINNINGS.contains(parts[parts.length - 1]);
    }

    int firstError() {
        for (int i = 0; i < buffer.length(); i++) {
            if (!begins(buffer.substring(0, i + 1))) return i;
        }
        return buffer.length();
    }

    int load() {
        state(now.surveys.size() > 0);
        String[] parts = buffer.split(";", -1);
        for (String part : parts) {
            if (!WHOLE.contains(part)) throw new IllegalArgumentException();
        }
        save();
        for (String part : parts) {
            int equals = part.indexOf('=');
            int level = Integer.parseInt(part.substring(0, equals - 2));
            int own = part.charAt(equals - 2) == 'a' ? 0 : 1;
            int face = part.charAt(equals - 1) == '+' ? 0 : 1;
            latest().readings[level][own][face] = Integer.parseInt(part.substring(equals + 1));
            now.spoiled++;
        }
        buffer = "";
        return parts.length;
    }

    int keep(int slot) {
        range(slot, 0, 1);
        slots[slot] = now.copy();
        return now.surveys.size();
    }

    int goBack(int slot) {
        range(slot, 0, 1);
        state(slots[slot] != null);
        save();
        now = slots[slot].copy();
        return now.surveys.size();
    }

    int undo() {
        state(!saved.isEmpty());
        now = saved.removeLast();
        return saved.size();
    }

    int levelOf(int level, int what) {
        index(level, 16);
        range(what, 0, 6);
        if (what < 2) return now.tilts[level][what];
        if (what == 2) return now.turns[level];
        return reads(level, (what - 3) / 2, (what - 3) % 2);
    }

    int off(int survey, int level, int own) {
        Taken taken = now.surveys.get(survey);
        return Math.abs(taken.check(level, own) - taken.common(own));
    }

    boolean suspicious(int survey, int level, int own) {
        return off(survey, level, own) > now.settings[0];
    }

    int read(int survey, int level, int own) {
        Taken taken = now.surveys.get(survey);
        int face0 = taken.readings[level][own][0];
        int face1 = taken.readings[level][own][1];
        if (now.settings[1] == 0 || !suspicious(survey, level, own)) return (face0 - face1) / 2;
        int one = face0 - taken.common(own) / 2;
        int other = taken.common(own) / 2 - face1;
        if (survey == 0) return one;
        int ahead = read(survey - 1, level, own);
        return Math.abs(one - ahead) <= Math.abs(other - ahead) ? one : other;
    }

    int told(int survey, int level, int plane) {
        int first = read(survey, level, 0);
        int second = read(survey, level, 1);
        int turn = now.settings[2] == 1 ? now.turns[level] : 0;
        for (int a = -1; a <= 1; a++) {
            for (int b = -1; b <= 1; b++) {
                if (Math.abs(a) + Math.abs(b) != 1) continue;
                int[][] met = {{a, b}, {b, -a}, {-a, -b}, {-b, a}};
                // The unit tilts in the casing which the probe meets as its own tilts 0 and 1.
                if (plane == 0 && a == 1) return met[turn][0] * first + met[turn][1] * second;
                if (plane == 1 && b == 1) return met[turn][0] * first + met[turn][1] * second;
            }
        }
        throw new AssertionError();
    }

    int reading(int survey, int level, int own, int what) {
        index(survey, now.surveys.size());
        index(level, 16);
        index(own, 2);
        range(what, 0, 5);
        Taken taken = now.surveys.get(survey);
        if (what < 2) return taken.readings[level][own][what];
        if (what == 2) return taken.check(level, own);
        if (what == 3) return suspicious(survey, level, own) ? 1 : 0;
        return what == 4 ? read(survey, level, own) : told(survey, level, own);
    }

    int surveyOf(int survey, int what) {
        index(survey, now.surveys.size());
        range(what, 0, 4);
        Taken taken = now.surveys.get(survey);
        if (what == 0) return taken.day;
        if (what < 3) return taken.common(what - 1);
        int suspicious = 0;
        int farthest = 0;
        for (int level = 0; level < 16; level++) {
            for (int own = 0; own < 2; own++) {
                if (suspicious(survey, level, own)) suspicious++;
            }
            int best = Math.max(off(survey, farthest, 0), off(survey, farthest, 1));
            if (Math.max(off(survey, level, 0), off(survey, level, 1)) > best) farthest = level;
        }
        return what == 3 ? suspicious : farthest;
    }

    int place(int survey, int level, int plane, int what) {
        index(survey, now.surveys.size());
        index(level, 16);
        index(plane, 2);
        range(what, 0, 1);
        int sum = 0;
        for (int at = 0; at <= level; at++) sum += told(survey, at, plane);
        return sum;
    }

    int count(int what) {
        range(what, 0, 7);
        int turned = 0;
        for (int turn : now.turns) {
            if (turn != 0) turned++;
        }
        return new int[] {now.day, now.surveys.size(), now.biases[0], now.biases[1], now.taken, now.spoiled, turned,
            saved.size()}[what];
    }

    int setting(int setting) {
        index(setting, 3);
        return now.settings[setting];
    }

    void two(int first, int second, int plane) {
        index(first, now.surveys.size());
        index(second, now.surveys.size());
        index(plane, 2);
    }

    int moved(int first, int second, int level, int plane) {
        two(first, second, plane);
        index(level, 16);
        return place(second, level, plane, 0) - place(first, level, plane, 0);
    }

    int slidesAt(int first, int second, int plane) {
        two(first, second, plane);
        int found = -1;
        int most = 0;
        for (int level = 15; level >= 0; level--) {
            int differs = Math.abs(told(first, level, plane) - told(second, level, plane));
            if (differs != 0 && differs >= most) {
                found = level;
                most = differs;
            }
        }
        return found;
    }

    int firstMoved(int first, int second, int plane, int by) {
        two(first, second, plane);
        range(by, 1, 999);
        for (int level = 0; level < 16; level++) {
            if (Math.abs(moved(first, second, level, plane)) >= by) return level;
        }
        return -1;
    }

    double speed(int first, int second, int plane) {
        two(first, second, plane);
        int days = now.surveys.get(second).day - now.surveys.get(first).day;
        return days == 0 ? 0.0 : (double) moved(first, second, 15, plane) / days;
    }

    float meanCheck(int survey, int own) {
        index(survey, now.surveys.size());
        index(own, 2);
        int sum = 0;
        for (int level = 0; level < 16; level++) sum += now.surveys.get(survey).check(level, own);
        return (float) sum / 16;
    }

    double spread(int survey, int own) {
        index(survey, now.surveys.size());
        index(own, 2);
        int sum = 0;
        int squares = 0;
        for (int level = 0; level < 16; level++) {
            int check = now.surveys.get(survey).check(level, own);
            sum += check;
            squares += check * check;
        }
        return (double) (16 * squares - sum * sum) / 256;
    }

    long hash;

    void put(long value) {
        hash = 31 * hash + value;
    }

    long digest() {
        hash = 3533;
        for (int what = 0; what < 8; what++) put(count(what));
        for (int setting = 0; setting < 3; setting++) put(setting(setting));
        for (int level = 0; level < 16; level++) {
            for (int what = 0; what < 7; what++) put(levelOf(level, what));
        }
        for (int survey = 0; survey < now.surveys.size(); survey++) {
            for (int what = 0; what < 5; what++) put(surveyOf(survey, what));
            for (int level = 0; level < 16; level++) {
                for (int own = 0; own < 2; own++) {
                    for (int what = 0; what < 6; what++) put(reading(survey, level, own, what));
                    put(place(survey, level, own, 0));
                    put(place(survey, level, own, 1));
                }
            }
            for (int own = 0; own < 2; own++) {
                put(Float.floatToIntBits(meanCheck(survey, own)));
                put(Double.doubleToLongBits(spread(survey, own)));
            }
        }
        for (int survey = 1; survey < now.surveys.size(); survey++) {
            for (int plane = 0; plane < 2; plane++) {
                put(slidesAt(0, survey, plane));
                put(firstMoved(0, survey, plane, 5));
                put(Double.doubleToLongBits(speed(0, survey, plane)));
            }
        }
        put(slots[0] != null ? 1 : 0);
        put(slots[1] != null ? 1 : 0);
        put(buffer.length());
        for (char sign : buffer.toCharArray()) put(sign);
        return hash;
    }

    // ---- the runs

    interface Call {
        Object answer();
    }

    static String outcome(Call call) {
        try {
            return String.valueOf(call.answer());
        } catch (IndexOutOfBoundsException | IllegalArgumentException | IllegalStateException e) {
            return "throws " + e.getClass().getSimpleName();
        }
    }

    static void compare(int run, String name, Call real, Call model) {
        String got = outcome(real);
        String want = outcome(model);
        if (!got.equals(want) && wrong++ < 20) {
            System.out.println("run " + run + ": " + name + " answered " + got + ", due is " + want);
        }
    }

    static final Random RANDOM = new Random(3533);

    /** Now and then one too few or too many, or far out. */
    static int near(int least, int most) {
        int roll = RANDOM.nextInt(60);
        if (roll == 0) return least - 1;
        if (roll == 1) return most + 1;
        if (roll == 2) return RANDOM.nextInt();
        if (roll == 3) return RANDOM.nextBoolean() ? Integer.MIN_VALUE : Integer.MAX_VALUE;
        if (roll < 8) return RANDOM.nextBoolean() ? least : most;
        return least + RANDOM.nextInt(most - least + 1);
    }

    static String someText() {
        if (RANDOM.nextInt(8) == 0) return "01259ab+-=;x:<`c/".charAt(RANDOM.nextInt(17)) + "";
        StringBuilder text = new StringBuilder();
        int parts = 1 + RANDOM.nextInt(3);
        for (int part = 0; part < parts; part++) {
            if (part > 0) text.append(';');
            int[] span = {3, 30, 200};
            int most = span[RANDOM.nextInt(3)];
            text.append(RANDOM.nextInt(16)).append(RANDOM.nextBoolean() ? 'a' : 'b');
            text.append(RANDOM.nextBoolean() ? '+' : '-').append('=').append(RANDOM.nextInt(2 * most + 1) - most);
        }
        if (RANDOM.nextInt(6) == 0) {
            text.setCharAt(RANDOM.nextInt(text.length()), "0123456789ab+-=;c,".charAt(RANDOM.nextInt(18)));
        }
        if (RANDOM.nextInt(12) == 0) text.setLength(RANDOM.nextInt(text.length()));
        return text.toString();
    }

    static void change(int run, SlotProbe x, SlotProbeModel m) {
        int level = near(0, 15);
        int plane = near(0, 1);
        int face = near(0, 1);
        int slot = near(0, 1);
        int tilt = near(-99, 99);
        switch (RANDOM.nextInt(14)) {
            case 0 -> compare(run, "bend", () -> x.bend(level, plane, tilt), () -> m.bend(level, plane, tilt));
            case 1 -> compare(run, "slide", () -> x.slide(level, plane, tilt), () -> m.slide(level, plane, tilt));
            case 2 -> {
                int turn = near(0, 3);
                compare(run, "turn", () -> x.turn(level, turn), () -> m.turn(level, turn));
            }
            case 3 -> {
                int bias = near(-50, 50);
                compare(run, "bias", () -> x.bias(plane, bias), () -> m.bias(plane, bias));
            }
            case 4 -> {
                int setting = near(0, 2);
                int value = setting == 0 ? near(0, 99) : near(0, 1);
                compare(run, "set", () -> x.set(setting, value), () -> m.set(setting, value));
            }
            case 5 -> {
                int days = near(1, 99);
                compare(run, "pass", () -> x.pass(days), () -> m.pass(days));
            }
            case 6, 7 -> compare(run, "survey", x::survey, m::survey);
            case 8 -> {
                if (RANDOM.nextInt(3) == 0) compare(run, "drop", x::drop, m::drop);
            }
            case 9, 10 -> {
                int by = RANDOM.nextBoolean() ? near(-9, 9) : tilt;
                compare(run, "spoil", () -> x.spoil(level, plane, face, by), () -> m.spoil(level, plane, face, by));
            }
            case 11 -> compare(run, "keep", () -> x.keep(slot), () -> m.keep(slot));
            case 12 -> {
                if (RANDOM.nextInt(2) == 0) compare(run, "goBack", () -> x.goBack(slot), () -> m.goBack(slot));
            }
            default -> {
                int times = RANDOM.nextInt(3);
                for (int i = 0; i < times; i++) compare(run, "undo", x::undo, m::undo);
            }
        }
    }

    static void type(int run, SlotProbe x, SlotProbeModel m) {
        if (RANDOM.nextInt(3) > 0) compare(run, "clearBuffer", x::clearBuffer, m::clearBuffer);
        for (char sign : someText().toCharArray()) {
            compare(run, "append", () -> x.append(sign), () -> m.append(sign));
        }
        int code = near(33, 126);
        if (code < 33 || code > 126) compare(run, "append", () -> x.append(code), () -> m.append(code));
        compare(run, "firstError of " + m.buffer, x::firstError, m::firstError);
        if (RANDOM.nextInt(4) > 0) compare(run, "load of " + m.buffer, x::load, m::load);
    }

    static void look(int run, SlotProbe x, SlotProbeModel m) {
        int surveys = Math.max(1, m.now.surveys.size());
        int first = near(0, surveys - 1);
        int second = near(0, surveys - 1);
        int level = near(0, 15);
        int plane = near(0, 1);
        int what = near(0, 7);
        int by = near(1, RANDOM.nextBoolean() ? 50 : 999);
        switch (RANDOM.nextInt(12)) {
            case 0 -> compare(run, "levelOf", () -> x.levelOf(level, what), () -> m.levelOf(level, what));
            case 1, 2 -> compare(run, "reading", () -> x.reading(first, level, plane, what),
                () -> m.reading(first, level, plane, what));
            case 3 -> compare(run, "surveyOf", () -> x.surveyOf(first, what), () -> m.surveyOf(first, what));
            case 4 -> compare(run, "place", () -> x.place(first, level, plane, what),
                () -> m.place(first, level, plane, what));
            case 5 -> compare(run, "count", () -> x.count(what), () -> m.count(what));
            case 6 -> compare(run, "setting", () -> x.setting(what), () -> m.setting(what));
            case 7 -> compare(run, "moved", () -> x.moved(first, second, level, plane),
                () -> m.moved(first, second, level, plane));
            case 8 -> compare(run, "slidesAt", () -> x.slidesAt(first, second, plane),
                () -> m.slidesAt(first, second, plane));
            case 9 -> compare(run, "firstMoved", () -> x.firstMoved(first, second, plane, by),
                () -> m.firstMoved(first, second, plane, by));
            case 10 -> compare(run, "speed", () -> x.speed(first, second, plane), () -> m.speed(first, second, plane));
            default -> {
                compare(run, "meanCheck", () -> x.meanCheck(first, plane), () -> m.meanCheck(first, plane));
                compare(run, "spread", () -> x.spread(first, plane), () -> m.spread(first, plane));
            }
        }
    }

    public static void main(String[] args) {
        for (int run = 0; run < RUNS; run++) {
            SlotProbe x = new SlotProbe();
            SlotProbeModel m = new SlotProbeModel();
            for (int call = 0; call < CALLS; call += 5) {
                change(run, x, m);
                change(run, x, m);
                if (RANDOM.nextInt(6) == 0) type(run, x, m);
                look(run, x, m);
                look(run, x, m);
                if (RANDOM.nextInt(10) == 0 || call + 5 >= CALLS) compare(run, "digest", x::digest, m::digest);
            }
        }
        System.out.println(wrong == 0 ? "all answers are as due" : wrong + " answers are not as due");
        if (wrong != 0) System.exit(1);
    }
}
