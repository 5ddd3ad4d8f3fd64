import java.util.ArrayList;
import java.util.List;

/** For each sentence of the document that names a boundary case, the test that belongs to it. */
public final class SlotProbeEdges {

    private static final String INDEX = "IndexOutOfBoundsException";
    private static final String ARGUMENT = "IllegalArgumentException";
    private static final String STATE = "IllegalStateException";
    private static final String DIGITS = "0123456789";

    private static int wrong = 0;
    private static int sentences = 0;
    private static String sentence = "";

    private interface Test {
        void run();
    }

    private interface Made {
        SlotProbe make();
    }

    private interface Asked {
        Object of(SlotProbe x);
    }

    private interface Argument {
        Object of(SlotProbe x, int value);
    }

    // ---- how answers are held against what is due

    /** The terms count as promise 0. */
    private static void says(int promise, String words, Test test) {
        sentence = (promise == 0 ? "terms" : "promise " + promise) + ", \"" + words + "\"";
        sentences++;
        try {
            test.run();
        } catch (RuntimeException e) {
            report("threw " + e);
        }
    }

    private static void report(String what) {
        wrong++;
        int line = 0;
        for (StackTraceElement frame : new Throwable().getStackTrace()) {
            if (line == 0 && frame.getMethodName().startsWith("lambda$")) {
                line = frame.getLineNumber();
            }
        }
        System.out.println(sentence + ", line " + line + ": " + what);
    }

    private static void due(Object want, Object got) {
        if (!want.equals(got)) {
            report("answered " + got + ", due is " + want);
        }
    }

    private static String outcome(SlotProbe x, Asked call) {
        try {
            return String.valueOf(call.of(x));
        } catch (RuntimeException e) {
            return "throws " + e.getClass().getSimpleName();
        }
    }

    /** All that can be told of an object, its saved states and its snapshots too; the object is used up by it. */
    private static List<Long> remains(SlotProbe x) {
        List<Long> digests = new ArrayList<>();
        digests.add(x.digest());
        while (x.count(7) > 0) {
            x.undo();
            digests.add(x.digest());
        }
        for (int slot = 0; slot < 2; slot++) {
            int at = slot;
            outcome(x, y -> y.goBack(at));
            digests.add(x.digest());
        }
        return digests;
    }

    /** The call throws just this, and changes nothing. */
    private static void refuses(String exception, Made made, Asked call) {
        SlotProbe x = made.make();
        due("throws " + exception, outcome(x, call));
        due(remains(made.make()), remains(x));
    }

    private static void changesNothing(Made made, Asked call) {
        SlotProbe x = made.make();
        accepts(x, call);
        due(remains(made.make()), remains(x));
    }

    private static void accepts(SlotProbe x, Asked call) {
        String got = outcome(x, call);
        if (got.startsWith("throws")) {
            report(got);
        }
    }

    /** Just the values from least to most are taken; the others are refused. */
    private static void range(int least, int most, String exception, Argument call) {
        for (int value : new int[] {least, most}) {
            accepts(busy(), x -> call.of(x, value));
        }
        for (int value : new int[] {least - 1, most + 1, Integer.MIN_VALUE, Integer.MAX_VALUE}) {
            refuses(exception, SlotProbeEdges::busy, x -> call.of(x, value));
        }
    }

    /** The call saves the state from before it, and undo() brings that back. */
    private static void saves(Made made, Asked call) {
        SlotProbe x = made.make();
        int saved = x.count(7);
        accepts(x, call);
        x.clearBuffer();
        due(saved + 1, x.count(7));
        due(saved, x.undo());
        SlotProbe before = made.make();
        before.clearBuffer();
        due(remains(before), remains(x));
    }

    // ---- objects to begin with

    private static void write(SlotProbe x, String text) {
        x.clearBuffer();
        for (char sign : text.toCharArray()) {
            x.append(sign);
        }
    }

    private static SlotProbe written(String text) {
        SlotProbe x = new SlotProbe();
        write(x, text);
        return x;
    }

    private static SlotProbe fresh() {
        return new SlotProbe();
    }

    /** Three surveys, both slots, six saved states and a text: all that a refused call might change. */
    private static SlotProbe busy() {
        SlotProbe x = new SlotProbe();
        x.bias(0, 3);
        x.bias(1, -4);
        x.bend(0, 0, 20);
        x.bend(15, 1, -7);
        x.turn(15, 3);
        x.survey();
        x.keep(0);
        x.pass(4);
        x.slide(7, 0, 9);
        x.survey();
        x.spoil(7, 0, 1, 30);
        x.keep(1);
        x.pass(5);
        x.slide(7, 0, -20);
        x.survey();
        x.spoil(2, 1, 0, 11);
        write(x, "3a+=7");
        return x;
    }

    /** One survey, one slot and few saved states, so that one more can be told. */
    private static SlotProbe calm() {
        SlotProbe x = new SlotProbe();
        x.bend(15, 0, 99);
        x.keep(0);
        x.survey();
        x.spoil(4, 1, 0, 7);
        write(x, "4b+=7");
        return x;
    }

    private static SlotProbe surveyed(int surveys) {
        SlotProbe x = new SlotProbe();
        for (int i = 0; i < surveys; i++) {
            x.survey();
        }
        return x;
    }

    /** The tilt at a level in the plane 0 when the survey 0 was taken, then that of the survey 1. */
    private static SlotProbe slid(int level, int before, int after) {
        SlotProbe x = new SlotProbe();
        x.bend(level, 0, before);
        x.survey();
        x.bend(level, 0, after);
        x.survey();
        return x;
    }

    /** The own tilt 0 of a straight casing's survey, with these checks by levels. */
    private static SlotProbe checked(int... checks) {
        SlotProbe x = surveyed(1);
        for (int level = 0; level < checks.length; level++) {
            x.spoil(level, 0, level % 2, checks[level]);
        }
        return x;
    }

    private static void spoilFar(SlotProbe x, int level, int own, int face, int by) {
        int rest = by;
        while (rest != 0) {
            int step = Math.max(-99, Math.min(99, rest));
            x.spoil(level, own, face, step);
            rest -= step;
        }
    }

    // ---- the terms

    private static void casing() {
        says(0, "NONE = -1", () -> due(-1, SlotProbe.NONE));
        says(0, "at most 512 calls: the last of them answers yet", () -> {
            SlotProbe x = new SlotProbe();
            for (int call = 0; call < 510; call++) {
                x.slide(15, 1, call % 3 - 1);
            }
            x.slide(15, 1, 99);
            due(99, x.levelOf(15, 1));
        });
        says(0, "16 levels, numbered from 0 at the toe to 15 at the head", () -> {
            SlotProbe x = new SlotProbe();
            for (int level = 0; level < 16; level++) {
                x.bend(level, 0, level + 1);
                x.bend(level, 1, -level);
            }
            for (int level = 0; level < 16; level++) {
                due(level + 1, x.levelOf(level, 0));
                due(-level, x.levelOf(level, 1));
            }
        });
        says(0, "the toe, which stays where it is", () -> {
            SlotProbe x = slid(0, -99, 99);
            due(-99, x.place(0, 0, 0, 0));
            due(99, x.place(1, 0, 0, 0));
            due(0, x.moved(0, 1, 0, 1));
        });
        says(0, "with the turn 0 a and b; with 1 b and -a; with 2 -a and -b; with 3 -b and a", () -> {
            int[][] met = {{-99, 98}, {98, 99}, {99, -98}, {-98, -99}};
            for (int turn = 0; turn < 4; turn++) {
                SlotProbe x = new SlotProbe();
                x.bend(15, 0, -99);
                x.bend(15, 1, 98);
                x.turn(15, turn);
                due(met[turn][0], x.levelOf(15, 3));
                due(-met[turn][0], x.levelOf(15, 4));
                due(met[turn][1], x.levelOf(15, 5));
                due(-met[turn][1], x.levelOf(15, 6));
            }
        });
        says(0, "the face 1 the bias less its own tilt: the ends of both", () -> {
            SlotProbe x = new SlotProbe();
            x.bend(0, 0, 99);
            x.bend(0, 1, -99);
            x.bias(0, 50);
            x.bias(1, -50);
            x.survey();
            due(149, x.reading(0, 0, 0, 0));
            due(-49, x.reading(0, 0, 0, 1));
            due(-149, x.reading(0, 0, 1, 0));
            due(49, x.reading(0, 0, 1, 1));
            due(100, x.reading(0, 0, 0, 2));
            due(-100, x.reading(0, 0, 1, 2));
        });
    }

    private static void commonChecks() {
        says(0, "the middle one of its 16 checks: the eighth one from below", () -> {
            due(8, checked(16, 2, 14, 4, 12, 6, 10, 8, 9, 7, 11, 5, 13, 3, 15, 1).surveyOf(0, 1));
            due(-9, checked(-1, -2, -3, -4, -5, -6, -7, -8, -9, -10, -11, -12, -13, -14, -15, -16).surveyOf(0, 1));
            due(0, checked(1, 2, 3, 4, 5, 6, 7, 8).surveyOf(0, 1));
            due(1, checked(1, 2, 3, 4, 5, 6, 7, 8, 9).surveyOf(0, 1));
            due(0, checked(-1, -2, -3, -4, -5, -6, -7).surveyOf(0, 1));
            due(-1, checked(-1, -2, -3, -4, -5, -6, -7, -8).surveyOf(0, 1));
        });
        says(0, "the common check of an own tilt: the other one's is its own", () -> {
            SlotProbe x = checked(1, 2, 3, 4, 5, 6, 7, 8, 9);
            x.spoil(15, 1, 1, 99);
            due(0, x.surveyOf(0, 2));
            due(1, x.surveyOf(0, 1));
        });
        says(0, "the common check of an own tilt in a survey: from the first to the sixth its own", () -> {
            SlotProbe x = new SlotProbe();
            for (int survey = 0; survey < 6; survey++) {
                x.bias(0, 10 * survey);
                x.bias(1, -10 * survey);
                x.survey();
                x.spoil(15, 0, survey % 2, survey == 0 ? 0 : 50);
            }
            for (int survey = 0; survey < 6; survey++) {
                due(20 * survey, x.surveyOf(survey, 1));
                due(-20 * survey, x.surveyOf(survey, 2));
                due(survey == 0 ? 0 : 1, x.surveyOf(survey, 3));
                due(0, x.reading(survey, 15, 0, 4));
            }
        });
        says(0, "suspicious if its check is by more than setting 0 greater or less", () -> {
            SlotProbe x = surveyed(1);
            for (int by : new int[] {2, -2, 3, -3}) {
                x.spoil(9, 1, 1, by);
                due(Math.abs(by) > 2 ? 1 : 0, x.reading(0, 9, 1, 3));
                due(0, x.reading(0, 9, 0, 3));
                x.undo();
            }
        });
        says(0, "setting 0: how far checks may be off, 0", () -> {
            SlotProbe x = surveyed(1);
            x.set(0, 0);
            due(0, x.surveyOf(0, 3));
            x.spoil(0, 0, 0, 1);
            x.spoil(15, 1, 1, -1);
            due(1, x.reading(0, 0, 0, 3));
            due(1, x.reading(0, 15, 1, 3));
            due(2, x.surveyOf(0, 3));
        });
        says(0, "setting 0: how far checks may be off, 99", () -> {
            SlotProbe x = surveyed(1);
            x.set(0, 99);
            x.spoil(0, 0, 0, 99);
            x.spoil(15, 1, 1, -99);
            due(0, x.surveyOf(0, 3));
            x.spoil(0, 0, 1, 1);
            x.spoil(15, 1, 0, -1);
            due(2, x.surveyOf(0, 3));
        });
    }

    private static void tiltsRead() {
        says(0, "divided by 2, rounded toward 0", () -> {
            int[] read = {0, 0, 1, 1};
            for (int by = 0; by < 4; by++) {
                SlotProbe x = surveyed(1);
                x.set(1, 0);
                x.spoil(3, 1, 0, by);
                due(read[by], x.reading(0, 3, 1, 4));
                x.undo();
                x.spoil(3, 1, 0, -by);
                due(-read[by], x.reading(0, 3, 1, 4));
                x.undo();
                x.spoil(3, 1, 1, by);
                due(-read[by], x.reading(0, 3, 1, 4));
            }
        });
        says(0, "but if it is suspicious, and setting 1 is 1", () -> {
            SlotProbe x = slid(3, 10, 10);
            x.spoil(3, 0, 0, 8);
            due(10, x.reading(1, 3, 0, 4));
            x.set(1, 0);
            due(14, x.reading(1, 3, 0, 4));
            x.set(1, 1);
            x.set(0, 8);
            due(14, x.reading(1, 3, 0, 4));
            x.set(0, 7);
            due(10, x.reading(1, 3, 0, 4));
        });
        says(0, "half the common check, rounded toward 0", () -> {
            int[] commons = {3, -3, 1, -1, 2, -2};
            int[] halves = {1, -1, 0, 0, 1, -1};
            for (int i = 0; i < commons.length; i++) {
                SlotProbe x = surveyed(1);
                for (int level = 0; level < 9; level++) {
                    x.spoil(level, 0, level % 2, commons[i]);
                }
                x.spoil(15, 0, 0, 40);
                due(40 - halves[i], x.reading(0, 15, 0, 4));
            }
        });
        says(0, "half the common check less the reading of the face 1", () -> {
            int[] commons = {3, -3};
            int[] halves = {1, -1};
            for (int i = 0; i < 2; i++) {
                SlotProbe x = surveyed(2);
                for (int level = 0; level < 9; level++) {
                    x.spoil(level, 0, level % 2, commons[i]);
                }
                x.spoil(15, 0, 0, 40);
                x.spoil(15, 0, 1, 4);
                due(halves[i] - 4, x.reading(1, 15, 0, 4));
            }
        });
    }

    private static void tiltsMended() {
        says(0, "the one that is nearer: the first one", () -> {
            SlotProbe x = slid(3, 10, 10);
            x.spoil(3, 0, 0, 4);
            x.spoil(3, 0, 1, 5);
            due(14, x.reading(1, 3, 0, 4));
        });
        says(0, "the one that is nearer: the second one", () -> {
            SlotProbe x = slid(3, 10, 10);
            x.spoil(3, 0, 0, 5);
            x.spoil(3, 0, 1, 4);
            due(6, x.reading(1, 3, 0, 4));
        });
        says(0, "the first one, if both are alike near", () -> {
            SlotProbe x = slid(3, 10, 10);
            x.spoil(3, 0, 0, 5);
            x.spoil(3, 0, 1, 5);
            due(15, x.reading(1, 3, 0, 4));
            x.spoil(3, 0, 0, -10);
            x.spoil(3, 0, 1, -10);
            due(5, x.reading(1, 3, 0, 4));
        });
        says(0, "the first one, if this is the survey 0", () -> {
            SlotProbe x = surveyed(1);
            x.spoil(3, 0, 0, 50);
            due(50, x.reading(0, 3, 0, 4));
            x.spoil(3, 0, 1, 2);
            due(50, x.reading(0, 3, 0, 4));
        });
        says(0, "nearer to the tilt that is read by the survey ahead: a mended one", () -> {
            SlotProbe x = slid(3, 10, 10);
            x.spoil(3, 0, 0, 40);
            due(10, x.reading(1, 3, 0, 4));
            x.survey();
            x.spoil(3, 0, 0, 16);
            x.spoil(3, 0, 1, 2);
            due(8, x.reading(2, 3, 0, 4));
            x.set(1, 0);
            due(30, x.reading(1, 3, 0, 4));
            due(17, x.reading(2, 3, 0, 4));
        });
        says(0, "by the survey ahead of this one: not by one further ahead", () -> {
            SlotProbe x = slid(3, 40, 10);
            x.survey();
            x.spoil(3, 0, 0, 30);
            due(10, x.reading(2, 3, 0, 4));
        });
        says(0, "the tilt that is read of this own tilt: not the told one", () -> {
            SlotProbe x = slid(3, 40, 40);
            x.turn(3, 2);
            x.spoil(3, 0, 0, -80);
            due(40, x.reading(1, 3, 0, 4));
            due(-40, x.reading(1, 3, 0, 5));
        });
    }

    private static void tiltsTold() {
        says(0, "with the turn taken out: each turn gives the casing's own tilts back", () -> {
            for (int turn = 0; turn < 4; turn++) {
                SlotProbe x = new SlotProbe();
                x.bend(15, 0, -99);
                x.bend(15, 1, 98);
                x.turn(15, turn);
                x.survey();
                due(-99, x.reading(0, 15, 0, 5));
                due(98, x.reading(0, 15, 1, 5));
            }
        });
        says(0, "by the turns as they are now", () -> {
            int[][] told = {{-99, 98}, {-98, -99}, {99, -98}, {98, 99}};
            SlotProbe x = new SlotProbe();
            x.bend(0, 0, -99);
            x.bend(0, 1, 98);
            x.survey();
            for (int turn = 3; turn >= 0; turn--) {
                x.turn(0, turn);
                due(told[turn][0], x.reading(0, 0, 0, 5));
                due(told[turn][1], x.reading(0, 0, 1, 5));
                due(-99, x.reading(0, 0, 0, 4));
                due(98, x.reading(0, 0, 1, 4));
            }
        });
        says(0, "with setting 2 as 0 they are those that are read, as they are", () -> {
            SlotProbe x = new SlotProbe();
            x.bend(0, 0, -99);
            x.bend(0, 1, 98);
            x.turn(0, 1);
            x.survey();
            x.set(2, 0);
            due(98, x.reading(0, 0, 0, 5));
            due(99, x.reading(0, 0, 1, 5));
            x.set(2, 1);
            due(-99, x.reading(0, 0, 0, 5));
        });
    }

    private static void exceptions() {
        says(0, "the one that is named first: the index ahead of the argument", () -> {
            refuses(INDEX, SlotProbeEdges::busy, x -> x.bend(16, 0, 100));
            refuses(INDEX, SlotProbeEdges::busy, x -> x.bend(0, 2, -100));
            refuses(INDEX, SlotProbeEdges::busy, x -> x.slide(-1, 0, 100));
            refuses(INDEX, SlotProbeEdges::busy, x -> x.slide(0, -1, -100));
            refuses(INDEX, SlotProbeEdges::busy, x -> x.turn(16, 4));
            refuses(INDEX, SlotProbeEdges::busy, x -> x.bias(2, 51));
            refuses(INDEX, SlotProbeEdges::busy, x -> x.set(3, 100));
            refuses(INDEX, SlotProbeEdges::busy, x -> x.spoil(0, 0, 2, 100));
            refuses(INDEX, SlotProbeEdges::busy, x -> x.levelOf(16, 7));
            refuses(INDEX, SlotProbeEdges::busy, x -> x.reading(3, 0, 0, 6));
            refuses(INDEX, SlotProbeEdges::busy, x -> x.reading(0, 16, 0, -1));
            refuses(INDEX, SlotProbeEdges::busy, x -> x.reading(0, 0, 2, 6));
            refuses(INDEX, SlotProbeEdges::busy, x -> x.surveyOf(3, 5));
            refuses(INDEX, SlotProbeEdges::busy, x -> x.place(3, 0, 0, 2));
            refuses(INDEX, SlotProbeEdges::busy, x -> x.place(0, -1, 0, 2));
            refuses(INDEX, SlotProbeEdges::busy, x -> x.place(0, 0, -1, -1));
            refuses(INDEX, SlotProbeEdges::busy, x -> x.firstMoved(3, 0, 0, 0));
            refuses(INDEX, SlotProbeEdges::busy, x -> x.firstMoved(0, 3, 0, 1000));
            refuses(INDEX, SlotProbeEdges::busy, x -> x.firstMoved(0, 0, 2, 0));
        });
        says(0, "the one that is named first: the index ahead of the state", () ->
            refuses(INDEX, SlotProbeEdges::fresh, x -> x.spoil(16, 0, 0, 0)));
        says(0, "the one that is named first: the argument ahead of the state", () -> {
            refuses(ARGUMENT, SlotProbeEdges::fresh, x -> x.spoil(0, 0, 0, 100));
            refuses(ARGUMENT, SlotProbeEdges::fresh, x -> x.goBack(2));
            refuses(ARGUMENT, () -> dayIs(9999), x -> x.pass(100));
            refuses(ARGUMENT, () -> dayIs(9999), x -> x.pass(0));
            refuses(ARGUMENT, () -> written("a".repeat(60)), x -> x.append(127));
        });
        says(0, "the one that is named first: in load() the state ahead of the argument", () ->
            refuses(STATE, () -> written("x"), SlotProbe::load));
    }

    // ---- promises 1 to 6

    private static void newObject() {
        says(1, "a straight casing", () -> {
            SlotProbe x = new SlotProbe();
            for (int level = 0; level < 16; level++) {
                for (int what = 0; what < 7; what++) {
                    due(0, x.levelOf(level, what));
                }
            }
        });
        says(1, "the biases, the day and all that is counted at first 0", () -> {
            for (int what = 0; what < 8; what++) {
                due(0, new SlotProbe().count(what));
            }
        });
        says(1, "the settings at first 2, 1 and 1", () -> {
            due(2, new SlotProbe().setting(0));
            due(1, new SlotProbe().setting(1));
            due(1, new SlotProbe().setting(2));
        });
        says(1, "without surveys", () -> {
            refuses(INDEX, SlotProbeEdges::fresh, x -> x.surveyOf(0, 0));
            refuses(STATE, SlotProbeEdges::fresh, SlotProbe::drop);
        });
        says(1, "with empty slots", () -> {
            refuses(STATE, SlotProbeEdges::fresh, x -> x.goBack(0));
            refuses(STATE, SlotProbeEdges::fresh, x -> x.goBack(1));
        });
        says(1, "an empty buffer", () -> {
            due(0, new SlotProbe().clearBuffer());
            due(0, new SlotProbe().firstError());
        });
        says(1, "without saved states", () -> refuses(STATE, SlotProbeEdges::fresh, SlotProbe::undo));
    }

    private static void bend() {
        says(2, "level: 0 to 15", () -> range(0, 15, INDEX, (x, level) -> x.bend(level, 1, 5)));
        says(2, "plane: 0 or 1", () -> range(0, 1, INDEX, (x, plane) -> x.bend(7, plane, 5)));
        says(2, "tilt: -99 to 99", () -> range(-99, 99, ARGUMENT, (x, tilt) -> x.bend(7, 1, tilt)));
        says(2, "returns the tilt before", () -> {
            SlotProbe x = new SlotProbe();
            due(0, x.bend(0, 0, 99));
            due(99, x.bend(0, 0, -99));
            due(-99, x.bend(0, 0, -99));
            due(0, x.bend(0, 1, 1));
            due(0, x.bend(1, 0, 1));
        });
        says(2, "undoable, also if it changes nothing", () -> {
            saves(SlotProbeEdges::calm, x -> x.bend(15, 0, 99));
            saves(SlotProbeEdges::calm, x -> x.bend(15, 0, -99));
        });
    }

    private static void slide() {
        says(3, "level: 0 to 15", () -> range(0, 15, INDEX, (x, level) -> x.slide(level, 1, 5)));
        says(3, "plane: 0 or 1", () -> range(0, 1, INDEX, (x, plane) -> x.slide(7, plane, 5)));
        says(3, "by: -99 to 99", () -> range(-99, 99, ARGUMENT, (x, by) -> x.slide(7, 1, by)));
        says(3, "its tilt becomes greater, but at most 99", () -> {
            SlotProbe x = new SlotProbe();
            due(98, x.slide(15, 1, 98));
            due(99, x.slide(15, 1, 1));
            due(99, x.slide(15, 1, 1));
            due(99, x.slide(15, 1, 99));
            due(99, x.levelOf(15, 1));
            due(0, x.levelOf(15, 0));
            x.bend(15, 1, 98);
            due(99, x.slide(15, 1, 2));
        });
        says(3, "or less, but at least -99", () -> {
            SlotProbe x = new SlotProbe();
            due(-98, x.slide(0, 0, -98));
            due(-99, x.slide(0, 0, -1));
            due(-99, x.slide(0, 0, -1));
            due(-99, x.slide(0, 0, -99));
            due(-99, x.levelOf(0, 0));
            x.bend(0, 0, -98);
            due(-99, x.slide(0, 0, -2));
        });
        says(3, "returns the tilt then: from one end half way, by 0, to the other end", () -> {
            SlotProbe x = new SlotProbe();
            x.bend(0, 0, 99);
            due(99, x.slide(0, 0, 0));
            due(0, x.slide(0, 0, -99));
            due(-99, x.slide(0, 0, -99));
            due(0, x.slide(0, 0, 99));
        });
        says(3, "undoable, also if it changes nothing", () -> {
            saves(SlotProbeEdges::calm, x -> x.slide(15, 0, 99));
            saves(SlotProbeEdges::calm, x -> x.slide(15, 0, 0));
            saves(SlotProbeEdges::calm, x -> x.slide(15, 0, -1));
        });
    }

    private static void turn() {
        says(4, "level: 0 to 15", () -> range(0, 15, INDEX, (x, level) -> x.turn(level, 1)));
        says(4, "turn: 0 to 3", () -> range(0, 3, ARGUMENT, (x, turn) -> x.turn(7, turn)));
        says(4, "returns the turn before", () -> {
            SlotProbe x = new SlotProbe();
            due(0, x.turn(15, 3));
            due(3, x.turn(15, 3));
            due(3, x.turn(15, 0));
            due(0, x.turn(15, 1));
            due(0, x.turn(0, 2));
            due(2, x.levelOf(0, 2));
            due(1, x.levelOf(15, 2));
        });
        says(4, "undoable, also if it changes nothing", () -> {
            saves(SlotProbeEdges::calm, x -> x.turn(0, 0));
            saves(SlotProbeEdges::calm, x -> x.turn(15, 3));
        });
    }

    private static void bias() {
        says(5, "own: 0 or 1", () -> range(0, 1, INDEX, (x, own) -> x.bias(own, 5)));
        says(5, "bias: -50 to 50", () -> range(-50, 50, ARGUMENT, (x, bias) -> x.bias(1, bias)));
        says(5, "returns the bias before", () -> {
            SlotProbe x = new SlotProbe();
            due(0, x.bias(0, 50));
            due(50, x.bias(0, -50));
            due(-50, x.bias(0, -50));
            due(0, x.bias(1, 50));
            due(-50, x.count(2));
            due(50, x.count(3));
        });
        says(5, "undoable, also if it changes nothing", () -> {
            saves(SlotProbeEdges::calm, x -> x.bias(0, 0));
            saves(SlotProbeEdges::calm, x -> x.bias(1, -50));
        });
        says(5, "a survey keeps the bias that it was taken with", () -> {
            SlotProbe x = surveyed(1);
            x.bias(0, 50);
            due(0, x.reading(0, 0, 0, 0));
            due(50, x.levelOf(0, 3));
        });
    }

    private static void set() {
        says(6, "setting: 0 to 2", () -> range(0, 2, INDEX, (x, setting) -> x.set(setting, 0)));
        says(6, "the setting 0: 0 to 99", () -> range(0, 99, ARGUMENT, (x, value) -> x.set(0, value)));
        says(6, "the setting 1: 0 or 1", () -> range(0, 1, ARGUMENT, (x, value) -> x.set(1, value)));
        says(6, "the setting 2: 0 or 1", () -> range(0, 1, ARGUMENT, (x, value) -> x.set(2, value)));
        says(6, "returns the previous value", () -> {
            SlotProbe x = new SlotProbe();
            due(2, x.set(0, 99));
            due(99, x.set(0, 0));
            due(0, x.set(0, 0));
            due(1, x.set(1, 0));
            due(0, x.set(1, 1));
            due(1, x.set(2, 0));
            due(0, x.set(2, 0));
            due(1, x.setting(1));
        });
        says(6, "undoable, also if it changes nothing", () -> {
            saves(SlotProbeEdges::calm, x -> x.set(0, 2));
            saves(SlotProbeEdges::calm, x -> x.set(1, 0));
            saves(SlotProbeEdges::calm, x -> x.set(2, 1));
        });
    }

    // ---- promises 7 to 10

    private static SlotProbe dayIs(int day) {
        SlotProbe x = new SlotProbe();
        while (x.count(0) < day) {
            x.pass(Math.min(99, day - x.count(0)));
        }
        return x;
    }

    private static void pass() {
        says(7, "days: 1 to 99", () -> range(1, 99, ARGUMENT, SlotProbe::pass));
        says(7, "returns the day then", () -> {
            SlotProbe x = new SlotProbe();
            due(1, x.pass(1));
            due(100, x.pass(99));
            due(100, x.count(0));
        });
        says(7, "the day is at most 9999", () -> {
            due(9999, dayIs(9998).pass(1));
            due(9999, dayIs(9900).pass(99));
        });
        says(7, "refused if the day would be above 9999", () -> {
            refuses(STATE, () -> dayIs(9999), x -> x.pass(1));
            refuses(STATE, () -> dayIs(9999), x -> x.pass(99));
            refuses(STATE, () -> dayIs(9998), x -> x.pass(2));
            refuses(STATE, () -> dayIs(9901), x -> x.pass(99));
        });
        says(7, "undoable", () -> saves(SlotProbeEdges::calm, x -> x.pass(99)));
        says(7, "undoable: room for days is there again", () -> {
            SlotProbe x = dayIs(9999);
            x.undo();
            due(9999, x.pass(99));
        });
    }

    private static void survey() {
        says(8, "returns its number, from 0 in the order in which they were taken", () -> {
            SlotProbe x = new SlotProbe();
            for (int i = 0; i < 6; i++) {
                due(i, x.survey());
                due(i + 1, x.count(1));
                x.pass(1);
            }
            for (int i = 0; i < 6; i++) {
                due(i, x.surveyOf(i, 0));
            }
        });
        says(8, "refused if there are 6", () -> refuses(STATE, () -> surveyed(6), SlotProbe::survey));
        says(8, "after a drop there are 5, and the number is given again", () -> {
            SlotProbe x = surveyed(6);
            x.drop();
            due(5, x.survey());
            refuses(STATE, () -> {
                SlotProbe y = surveyed(6);
                y.drop();
                y.survey();
                return y;
            }, SlotProbe::survey);
        });
        says(8, "64 readings: all levels, own tilts and faces, anew after a drop", () -> {
            SlotProbe x = surveyed(1);
            x.spoil(0, 0, 0, 9);
            x.spoil(15, 1, 1, -9);
            x.drop();
            x.bias(0, 1);
            x.bias(1, 2);
            x.survey();
            for (int level = 0; level < 16; level++) {
                for (int face = 0; face < 2; face++) {
                    due(1, x.reading(0, level, 0, face));
                    due(2, x.reading(0, level, 1, face));
                }
            }
        });
        says(8, "a survey stays as it is when the casing bends later", () -> {
            SlotProbe x = surveyed(1);
            x.bend(15, 0, 99);
            due(0, x.reading(0, 15, 0, 0));
            due(0, x.reading(0, 15, 0, 4));
        });
        says(8, "the day when it was taken", () -> {
            SlotProbe x = dayIs(9999);
            x.survey();
            due(9999, x.surveyOf(0, 0));
            due(0, surveyed(1).surveyOf(0, 0));
        });
        says(8, "undoable", () -> {
            saves(SlotProbeEdges::calm, SlotProbe::survey);
            saves(() -> surveyed(5), SlotProbe::survey);
        });
    }

    private static void drop() {
        says(9, "returns how many are left", () -> {
            SlotProbe x = surveyed(6);
            for (int left = 5; left >= 0; left--) {
                due(left, x.drop());
                due(left, x.count(1));
            }
        });
        says(9, "refused if there is none", () -> {
            refuses(STATE, SlotProbeEdges::fresh, SlotProbe::drop);
            refuses(STATE, () -> {
                SlotProbe x = surveyed(1);
                x.drop();
                return x;
            }, SlotProbe::drop);
        });
        says(9, "the latest survey: the others stay", () -> {
            SlotProbe x = slid(4, 7, 9);
            x.drop();
            due(7, x.reading(0, 4, 0, 0));
            due("throws " + INDEX, outcome(x, y -> y.reading(1, 4, 0, 0)));
        });
        says(9, "undoable: its readings come back", () -> {
            saves(SlotProbeEdges::calm, SlotProbe::drop);
            SlotProbe x = surveyed(3);
            x.spoil(15, 1, 1, -99);
            x.drop();
            x.undo();
            due(-99, x.reading(2, 15, 1, 1));
        });
    }

    private static SlotProbe reads(int reading) {
        SlotProbe x = surveyed(2);
        spoilFar(x, 15, 1, 1, reading);
        return x;
    }

    private static void spoil() {
        says(10, "level: 0 to 15", () -> range(0, 15, INDEX, (x, level) -> x.spoil(level, 1, 1, 5)));
        says(10, "own: 0 or 1", () -> range(0, 1, INDEX, (x, own) -> x.spoil(7, own, 1, 5)));
        says(10, "face: 0 or 1", () -> range(0, 1, INDEX, (x, face) -> x.spoil(7, 1, face, 5)));
        says(10, "by: -99 to 99", () -> range(-99, 99, ARGUMENT, (x, by) -> x.spoil(7, 1, 1, by)));
        says(10, "refused if there is no survey", () -> {
            refuses(STATE, SlotProbeEdges::fresh, x -> x.spoil(0, 0, 0, 1));
            refuses(STATE, SlotProbeEdges::fresh, x -> x.spoil(0, 0, 0, 0));
            refuses(STATE, () -> {
                SlotProbe x = surveyed(1);
                x.drop();
                return x;
            }, x -> x.spoil(0, 0, 0, 1));
        });
        says(10, "refused if the reading would be above 900", () -> {
            due(900, reads(899).spoil(15, 1, 1, 1));
            due(900, reads(900).spoil(15, 1, 1, 0));
            due(801, reads(900).spoil(15, 1, 1, -99));
            refuses(STATE, () -> reads(900), x -> x.spoil(15, 1, 1, 1));
            refuses(STATE, () -> reads(802), x -> x.spoil(15, 1, 1, 99));
        });
        says(10, "refused if the reading would be below -900", () -> {
            due(-900, reads(-899).spoil(15, 1, 1, -1));
            due(-900, reads(-900).spoil(15, 1, 1, 0));
            due(-801, reads(-900).spoil(15, 1, 1, 99));
            refuses(STATE, () -> reads(-900), x -> x.spoil(15, 1, 1, -1));
            refuses(STATE, () -> reads(-802), x -> x.spoil(15, 1, 1, -99));
        });
        says(10, "a reading of the latest survey, and no other one", () -> {
            SlotProbe x = surveyed(2);
            due(-4, x.spoil(15, 0, 1, -4));
            due(0, x.reading(0, 15, 0, 1));
            due(-4, x.reading(1, 15, 0, 1));
            due(0, x.reading(1, 15, 0, 0));
            due(0, x.reading(1, 15, 1, 1));
            due(0, x.reading(1, 14, 0, 1));
        });
        says(10, "undoable, also if it changes nothing", () -> {
            saves(SlotProbeEdges::calm, x -> x.spoil(4, 1, 0, 0));
            saves(SlotProbeEdges::calm, x -> x.spoil(4, 1, 0, 99));
        });
    }

    // ---- promises 11 to 14

    private static void append() {
        says(11, "code: 33 to 126", () -> range(33, 126, ARGUMENT, SlotProbe::append));
        says(11, "returns the new length, up to 60", () -> {
            SlotProbe x = new SlotProbe();
            for (int length = 1; length <= 60; length++) {
                due(length, x.append(32 + length));
            }
        });
        says(11, "refused if the buffer has 60 characters", () -> {
            refuses(STATE, () -> written("~".repeat(60)), x -> x.append('a'));
            accepts(written("~".repeat(59)), x -> x.append('a'));
        });
        says(11, "not undoable", () -> {
            SlotProbe x = calm();
            int saved = x.count(7);
            due(6, x.append('!'));
            due(saved, x.count(7));
            x.undo();
            due(6, x.clearBuffer());
        });
    }

    private static void clearBuffer() {
        says(12, "returns the length that it had", () -> {
            due(0, new SlotProbe().clearBuffer());
            due(1, written("!").clearBuffer());
            due(60, written("~".repeat(60)).clearBuffer());
        });
        says(12, "clears the buffer: it has room again, from its beginning", () -> {
            SlotProbe x = written("~".repeat(60));
            x.clearBuffer();
            due(0, x.firstError());
            due(0, x.clearBuffer());
            due(1, x.append('7'));
            due(1, x.firstError());
        });
        says(12, "not undoable", () -> {
            SlotProbe x = calm();
            int saved = x.count(7);
            x.clearBuffer();
            due(saved, x.count(7));
            x.undo();
            due(0, x.clearBuffer());
        });
    }

    /** Behind the text just these signs may follow, of all that the buffer takes. */
    private static void follows(String text, String signs) {
        for (char sign = 33; sign <= 126; sign++) {
            due(text.length() + (signs.indexOf(sign) >= 0 ? 1 : 0), written(text + sign).firstError());
        }
    }

    private static void firstError() {
        says(13, "the length of the buffer if there is none: an empty one", () -> due(0, new SlotProbe().firstError()));
        says(13, "a level, 0 to 15", () -> {
            follows("", DIGITS);
            follows("0", "ab");
            follows("1", "012345ab");
            for (int level = 2; level <= 15; level++) {
                follows(String.valueOf(level), "ab");
            }
        });
        says(13, "a sign a or b, a sign + or -, =", () -> {
            follows("15a", "+-");
            follows("0b", "+-");
            follows("7a+", "=");
            follows("10b-", "=");
        });
        says(13, "a reading: perhaps -", () -> {
            follows("0a+=", "-" + DIGITS);
            follows("0a+=-", "123456789");
        });
        says(13, "a number from 0 to 200", () -> {
            for (String minus : new String[] {"", "-"}) {
                for (int number : new int[] {1, 2, 10, 12, 19}) {
                    follows("0a+=" + minus + number, DIGITS + ";");
                }
                follows("0a+=" + minus + "20", "0;");
                for (int number : new int[] {21, 30, 99, 100, 109, 199, 200}) {
                    follows("0a+=" + minus + number, ";");
                }
            }
        });
        says(13, "without leading zeros", () -> follows("0a+=0", ";"));
        says(13, "-0 is none", () -> {
            due(5, written("1b-=-0").firstError());
            due(5, written("1b-=-01").firstError());
        });
        says(13, "one or more of these with ; between them", () -> {
            follows("0a+=5;", DIGITS);
            follows("0a+=-200;1", "012345ab");
            follows("0a+=0;15b-=20", "0;");
            follows("0a+=1;0a+=1;0a+=0", ";");
        });
        says(13, "readings as a text of any length: a whole buffer that would have to go on", () -> {
            String text = "15a+=-100;".repeat(6);
            due(60, text.length());
            due(60, written(text).firstError());
            due(60, written(text.substring(1) + "1").firstError());
            due(59, written(text.substring(0, 59) + "+").firstError());
        });
        says(13, "the first character that is a syntax error: those behind it do not count", () -> {
            due(0, written("xx").firstError());
            due(0, written("~".repeat(60)).firstError());
            due(2, written("1a0+=1").firstError());
            due(7, written("1a+=5;1;;").firstError());
        });
        says(13, "the length of the buffer if there is none: a whole text, a beginning", () -> {
            due(5, written("0a+=0").firstError());
            due(1, written("1").firstError());
            due(6, written("0a+=0;").firstError());
            due(13, written("0b-=0;15a+=-7").firstError());
        });
        says(13, "changes nothing: asked again, it answers the same", () -> {
            changesNothing(SlotProbeEdges::busy, SlotProbe::firstError);
            for (String text : new String[] {"", "1", "1a+=200;", "1a+=201", "15b-=-7"}) {
                SlotProbe x = written(text);
                due(x.firstError(), x.firstError());
            }
        });
        says(13, "the buffer is read anew as it grows", () -> {
            SlotProbe x = new SlotProbe();
            for (char sign : "1a+=200;16".toCharArray()) {
                int length = x.append(sign);
                due(Math.min(length, 9), x.firstError());
            }
        });
    }

    private static SlotProbe loaded(String text) {
        SlotProbe x = surveyed(2);
        write(x, text);
        due(text.split(";").length, x.load());
        return x;
    }

    private static void refusesText(String text) {
        refuses(ARGUMENT, () -> {
            SlotProbe x = surveyed(2);
            write(x, text);
            return x;
        }, SlotProbe::load);
    }

    private static void load() {
        says(14, "returns how many readings the text has: one, and as many as the buffer has room for", () -> {
            SlotProbe x = loaded("0a+=7");
            due(7, x.reading(1, 0, 0, 0));
            StringBuilder text = new StringBuilder("0a+=1");
            for (int level = 1; level < 10; level++) {
                text.append(';').append(level).append("a+=1");
            }
            SlotProbe y = loaded(text.toString());
            due(10, y.count(5));
            due(1, y.reading(1, 9, 0, 0));
        });
        says(14, "a level, 0 to 15", () -> {
            for (int level = 0; level < 16; level++) {
                SlotProbe x = loaded(level + "b-=" + (level + 1));
                for (int at = 0; at < 16; at++) {
                    due(at == level ? level + 1 : 0, x.reading(1, at, 1, 1));
                }
            }
        });
        says(14, "a for the own tilt 0, b for 1, + for the face 0, - for 1", () -> {
            SlotProbe x = loaded("8a+=1;8a-=2;8b+=3;8b-=4");
            due(1, x.reading(1, 8, 0, 0));
            due(2, x.reading(1, 8, 0, 1));
            due(3, x.reading(1, 8, 1, 0));
            due(4, x.reading(1, 8, 1, 1));
        });
        says(14, "perhaps -, and a number from 0 to 200", () -> {
            for (int reading = -200; reading <= 200; reading++) {
                due(reading, loaded("15a-=" + reading).reading(1, 15, 0, 1));
            }
            refusesText("15a-=201");
            refusesText("15a-=-201");
            refusesText("15a-=-0");
            refusesText("15a-=00");
            refusesText("15a-=-01");
        });
        says(14, "one after the other: the later one stands", () -> {
            SlotProbe x = loaded("3a+=200;3a+=-200");
            due(-200, x.reading(1, 3, 0, 0));
            due(2, x.count(5));
        });
        says(14, "into the latest survey, and no other one", () ->
            due(0, loaded("3a+=200").reading(0, 3, 0, 0)));
        says(14, "a reading is put in place of what spoil() has made of it", () -> {
            SlotProbe x = reads(900);
            write(x, "15b-=200");
            x.load();
            due(200, x.reading(1, 15, 1, 1));
        });
        says(14, "clears the buffer", () -> due(0, loaded("3a+=200;4b-=0").clearBuffer()));
        says(14, "refused if there is no survey", () -> {
            refuses(STATE, () -> written("3a+=5"), SlotProbe::load);
            refuses(STATE, SlotProbeEdges::fresh, SlotProbe::load);
        });
        says(14, "refused if the buffer does not tell readings as a text", () -> {
            String[] texts = {"", "1", "15", "1a", "1a+", "1a+=", "1a+=-", "1a+=5;", "1a+=5;2", "1a+=5;2b-=", "x", ";",
                ";1a+=5", "1a+=5;;2a+=5", "16a+=5", "1a+=5x", "1c+=5", "1a*=5", "1a+5"};
            for (String text : texts) {
                refusesText(text);
            }
        });
        says(14, "undoable, also if it changes nothing; the buffer is not brought back", () -> {
            saves(SlotProbeEdges::calm, SlotProbe::load);
            SlotProbe x = calm();
            x.load();
            x.undo();
            due(0, x.clearBuffer());
        });
    }

    // ---- promises 15 to 17

    private static void keep() {
        says(15, "slot: 0 or 1", () -> range(0, 1, ARGUMENT, SlotProbe::keep));
        says(15, "returns how many surveys there are", () -> {
            for (int surveys = 0; surveys <= 6; surveys++) {
                due(surveys, surveyed(surveys).keep(1));
            }
        });
        says(15, "in place of the one in the slot; the other slot stays", () -> {
            SlotProbe x = surveyed(1);
            x.keep(0);
            x.keep(1);
            x.survey();
            x.keep(1);
            x.survey();
            due(2, x.goBack(1));
            due(1, x.goBack(0));
        });
        says(15, "a snapshot is not changed by what comes later", () -> {
            SlotProbe x = busy();
            x.keep(0);
            long kept = x.digest();
            x.bend(0, 0, -99);
            x.turn(15, 1);
            x.bias(0, 50);
            x.set(0, 99);
            x.pass(99);
            x.spoil(15, 1, 1, 99);
            x.drop();
            x.survey();
            x.goBack(0);
            due(kept, x.digest());
        });
        says(15, "not undoable", () -> {
            SlotProbe x = calm();
            int saved = x.count(7);
            x.keep(1);
            due(saved, x.count(7));
            x.undo();
            due(1, x.goBack(1));
            due(7, x.reading(0, 4, 1, 0));
        });
    }

    private static void goBack() {
        says(16, "slot: 0 or 1", () -> range(0, 1, ARGUMENT, SlotProbe::goBack));
        says(16, "refused if there is no snapshot in it", () -> {
            refuses(STATE, SlotProbeEdges::fresh, x -> x.goBack(0));
            refuses(STATE, SlotProbeEdges::calm, x -> x.goBack(1));
        });
        says(16, "returns how many surveys there are then", () -> {
            SlotProbe x = new SlotProbe();
            x.keep(0);
            for (int i = 0; i < 6; i++) {
                x.survey();
            }
            x.keep(1);
            due(0, x.goBack(0));
            due(6, x.goBack(1));
        });
        says(16, "a snapshot, which stays", () -> {
            SlotProbe x = slid(4, 7, 9);
            x.keep(1);
            x.drop();
            due(2, x.goBack(1));
            x.spoil(4, 0, 0, 50);
            x.drop();
            due(2, x.goBack(1));
            due(9, x.reading(1, 4, 0, 0));
        });
        says(16, "all but the buffer, the slots and the saved states", () -> {
            SlotProbe x = busy();
            x.keep(1);
            write(x, "~");
            x.survey();
            due(3, x.goBack(1));
            due(1, x.clearBuffer());
            due(6, x.count(7));
            due(1, x.goBack(0));
        });
        says(16, "what is counted so far is as it was", () -> {
            SlotProbe x = surveyed(2);
            x.keep(0);
            x.survey();
            x.spoil(0, 0, 0, 1);
            x.pass(1);
            x.turn(0, 1);
            x.goBack(0);
            due(0, x.count(0));
            due(2, x.count(4));
            due(0, x.count(5));
            due(0, x.count(6));
        });
        says(16, "undoable, also if it changes nothing", () -> {
            saves(SlotProbeEdges::calm, x -> x.goBack(0));
            saves(() -> {
                SlotProbe x = calm();
                x.keep(0);
                return x;
            }, x -> x.goBack(0));
        });
    }

    private static void undo() {
        says(17, "refused if there is none", () -> {
            refuses(STATE, SlotProbeEdges::fresh, SlotProbe::undo);
            refuses(STATE, () -> {
                SlotProbe x = surveyed(1);
                x.undo();
                return x;
            }, SlotProbe::undo);
        });
        says(17, "returns how many saved states are left", () -> {
            SlotProbe x = surveyed(6);
            for (int left = 5; left >= 0; left--) {
                due(left, x.undo());
                due(left, x.count(7));
                due(left, x.count(1));
            }
        });
        says(17, "at most 6 states are saved; the oldest one is dropped first", () -> {
            SlotProbe x = new SlotProbe();
            for (int tilt = 1; tilt <= 20; tilt++) {
                x.bend(0, 0, tilt);
                due(Math.min(6, tilt), x.count(7));
            }
            for (int tilt = 19; tilt >= 14; tilt--) {
                x.undo();
                due(tilt, x.levelOf(0, 0));
            }
            due("throws " + STATE, outcome(x, SlotProbe::undo));
            due(14, x.levelOf(0, 0));
        });
        says(17, "the oldest one is dropped first, also after some were brought back", () -> {
            SlotProbe x = new SlotProbe();
            for (int tilt = 1; tilt <= 7; tilt++) {
                x.bend(0, 0, tilt);
            }
            x.undo();
            x.undo();
            x.undo();
            due(4, x.levelOf(0, 0));
            for (int tilt = 11; tilt <= 14; tilt++) {
                x.bend(0, 0, tilt);
            }
            for (int tilt : new int[] {13, 12, 11, 4, 3, 2}) {
                x.undo();
                due(tilt, x.levelOf(0, 0));
            }
            due("throws " + STATE, outcome(x, SlotProbe::undo));
        });
        says(17, "restores the latest saved state: what surveys tell is told anew", () -> {
            SlotProbe x = slid(3, 10, 12);
            x.spoil(3, 0, 0, 40);
            due(1, x.surveyOf(1, 3));
            due(12, x.place(1, 15, 0, 0));
            x.undo();
            due(0, x.surveyOf(1, 3));
            x.bend(0, 0, 7);
            x.survey();
            due(19, x.place(2, 15, 0, 0));
            x.undo();
            x.undo();
            x.survey();
            due(12, x.place(2, 15, 0, 0));
        });
        says(17, "a call that throws saves no state", () -> {
            SlotProbe x = surveyed(6);
            outcome(x, SlotProbe::survey);
            due(5, x.undo());
            due(5, x.count(1));
        });
        says(17, "all, also what is counted so far", () -> {
            SlotProbe x = surveyed(1);
            x.spoil(0, 0, 0, 0);
            x.undo();
            due(0, x.count(5));
            x.undo();
            due(0, x.count(4));
        });
        says(17, "but the buffer, the slots and the saved states", () -> {
            SlotProbe x = surveyed(2);
            write(x, "12");
            x.keep(0);
            x.undo();
            due(2, x.goBack(0));
            due(2, x.clearBuffer());
            due(2, x.count(7));
        });
        says(17, "undo() is not undoable itself", () -> {
            SlotProbe x = surveyed(2);
            x.undo();
            due(0, x.undo());
            due(0, x.count(1));
        });
    }

    // ---- promises 18 to 23

    private static void levelOf() {
        says(18, "level: 0 to 15", () -> range(0, 15, INDEX, (x, level) -> x.levelOf(level, 6)));
        says(18, "what: 0 to 6", () -> range(0, 6, ARGUMENT, (x, what) -> x.levelOf(15, what)));
        says(18, "what the probe would read now: the ends of tilts and biases", () -> {
            SlotProbe x = new SlotProbe();
            x.bend(15, 0, 99);
            x.bend(15, 1, -99);
            x.bias(0, 50);
            x.bias(1, -50);
            int[][] met = {{149, -49, -149, 49}, {-49, 149, -149, 49}, {-49, 149, 49, -149}, {149, -49, 49, -149}};
            for (int turn = 0; turn < 4; turn++) {
                x.turn(15, turn);
                for (int face = 0; face < 4; face++) {
                    due(met[turn][face], x.levelOf(15, 3 + face));
                }
            }
        });
        says(18, "nothing is changed", () -> changesNothing(SlotProbeEdges::busy, x -> x.levelOf(15, 6)));
    }

    private static void reading() {
        says(19, "survey: its number", () -> range(0, 2, INDEX, (x, survey) -> x.reading(survey, 15, 1, 5)));
        says(19, "level: 0 to 15", () -> range(0, 15, INDEX, (x, level) -> x.reading(2, level, 1, 5)));
        says(19, "own: 0 or 1", () -> range(0, 1, INDEX, (x, own) -> x.reading(2, 15, own, 5)));
        says(19, "what: 0 to 5", () -> range(0, 5, ARGUMENT, (x, what) -> x.reading(2, 15, 1, what)));
        says(19, "no such survey: none at all, the dropped one, the one behind the sixth", () -> {
            refuses(INDEX, SlotProbeEdges::fresh, x -> x.reading(0, 0, 0, 0));
            SlotProbe x = surveyed(3);
            x.drop();
            due("throws " + INDEX, outcome(x, y -> y.reading(2, 0, 0, 0)));
            due(0, surveyed(6).reading(5, 15, 1, 5));
            due("throws " + INDEX, outcome(surveyed(6), y -> y.reading(6, 0, 0, 0)));
        });
        says(19, "the check: the ends of readings", () -> {
            SlotProbe x = surveyed(1);
            spoilFar(x, 0, 0, 0, 900);
            spoilFar(x, 0, 0, 1, 900);
            spoilFar(x, 15, 1, 0, -900);
            spoilFar(x, 15, 1, 1, -900);
            due(1800, x.reading(0, 0, 0, 2));
            due(-1800, x.reading(0, 15, 1, 2));
            due(900, x.reading(0, 0, 0, 4));
            due(-900, x.reading(0, 15, 1, 4));
            x.set(1, 0);
            due(0, x.reading(0, 0, 0, 4));
        });
        says(19, "nothing is changed", () -> changesNothing(SlotProbeEdges::busy, x -> x.reading(2, 15, 1, 5)));
    }

    private static void surveyOf() {
        says(20, "survey: its number", () -> range(0, 2, INDEX, (x, survey) -> x.surveyOf(survey, 4)));
        says(20, "what: 0 to 4", () -> range(0, 4, ARGUMENT, (x, what) -> x.surveyOf(2, what)));
        says(20, "no such survey: none at all", () -> refuses(INDEX, SlotProbeEdges::fresh, x -> x.surveyOf(0, 0)));
        says(20, "suspicious own tilts, at all levels: none, and as many as there can be", () -> {
            SlotProbe x = surveyed(1);
            due(0, x.surveyOf(0, 3));
            for (int level = 0; level < 16; level++) {
                x.spoil(level, 0, 0, 3 * level);
                x.spoil(level, 1, 1, -3 * level);
            }
            due(30, x.surveyOf(0, 3));
            x.set(0, 3);
            due(26, x.surveyOf(0, 3));
        });
        says(20, "the level with the greatest difference: at the toe, at the head, of either own tilt", () -> {
            due(0, checked(9, 8).surveyOf(0, 4));
            SlotProbe x = checked(9, 8);
            x.spoil(15, 1, 0, 10);
            due(15, x.surveyOf(0, 4));
            x.spoil(0, 0, 0, 2);
            due(0, x.surveyOf(0, 4));
        });
        says(20, "the greatest difference: also of a check that is less", () -> {
            due(1, checked(9, -10).surveyOf(0, 4));
            due(0, checked(10, -9).surveyOf(0, 4));
        });
        says(20, "the greatest difference from the common check, which need not be 0", () -> {
            SlotProbe x = checked(20, 20, 20, 20, 20, 20, 20, 20, 20, 20, 20, 20, 39, 0, 20, 20);
            due(13, x.surveyOf(0, 4));
            due(20, x.surveyOf(0, 1));
        });
        says(20, "of several the lowest", () -> {
            due(0, surveyed(1).surveyOf(0, 4));
            due(2, checked(0, 0, 5, 0, 5, -5).surveyOf(0, 4));
            due(2, checked(0, 0, -5, 0, 5, -5).surveyOf(0, 4));
            SlotProbe x = checked(0, 0, 0, 7);
            x.spoil(9, 1, 0, 7);
            due(3, x.surveyOf(0, 4));
            x.spoil(2, 1, 1, -7);
            due(2, x.surveyOf(0, 4));
        });
        says(20, "nothing is changed", () -> changesNothing(SlotProbeEdges::busy, x -> x.surveyOf(2, 4)));
    }

    private static SlotProbe leaning(int tilt) {
        SlotProbe x = new SlotProbe();
        for (int level = 0; level < 16; level++) {
            x.bend(level, 0, tilt);
            x.bend(level, 1, -tilt);
        }
        x.survey();
        return x;
    }

    private static void place() {
        says(21, "survey: its number", () -> range(0, 2, INDEX, (x, survey) -> x.place(survey, 15, 1, 1)));
        says(21, "level: 0 to 15", () -> range(0, 15, INDEX, (x, level) -> x.place(2, level, 1, 1)));
        says(21, "plane: 0 or 1", () -> range(0, 1, INDEX, (x, plane) -> x.place(2, 15, plane, 1)));
        says(21, "what: 0 or 1", () -> range(0, 1, ARGUMENT, (x, what) -> x.place(2, 15, 1, what)));
        says(21, "no such survey: none at all", () -> refuses(INDEX, SlotProbeEdges::fresh, x -> x.place(0, 0, 0, 0)));
        says(21, "the tilts told of all levels from the toe up to this one: the ends", () -> {
            due(99, leaning(99).place(0, 0, 0, 0));
            due(1584, leaning(99).place(0, 15, 0, 0));
            due(-1584, leaning(99).place(0, 15, 1, 0));
            due(-1584, leaning(-99).place(0, 15, 0, 0));
        });
        says(21, "the place (the same for both): no tilts above the head, fifteen above the toe", () -> {
            due(1584, leaning(99).place(0, 15, 0, 1));
            due(99, leaning(99).place(0, 0, 0, 1));
            due(-99, leaning(99).place(0, 0, 1, 1));
        });
        says(21, "the place (the same for both): of mended and turned tilts too", () -> {
            SlotProbe x = busy();
            x.turn(0, 1);
            x.turn(7, 3);
            for (int survey = 0; survey < 3; survey++) {
                for (int level = 0; level < 16; level++) {
                    due(x.place(survey, level, 0, 0), x.place(survey, level, 0, 1));
                    due(x.place(survey, level, 1, 0), x.place(survey, level, 1, 1));
                }
            }
        });
        says(21, "nothing is changed", () -> changesNothing(SlotProbeEdges::busy, x -> x.place(2, 15, 1, 1)));
    }

    private static void count() {
        says(22, "what: 0 to 7", () -> range(0, 7, ARGUMENT, SlotProbe::count));
        says(22, "surveys taken so far: dropped ones too, refused ones not", () -> {
            SlotProbe x = surveyed(6);
            outcome(x, SlotProbe::survey);
            due(6, x.count(4));
            x.drop();
            due(6, x.count(4));
            x.survey();
            due(7, x.count(4));
            due(6, x.count(1));
        });
        says(22, "readings spoiled so far: one for each spoil(), also by 0", () -> {
            SlotProbe x = surveyed(1);
            x.spoil(0, 0, 0, 0);
            due(1, x.count(5));
            x.spoil(0, 0, 0, 5);
            x.spoil(0, 0, 0, -5);
            due(3, x.count(5));
            x.drop();
            due(3, x.count(5));
        });
        says(22, "one for each reading of a text in load()", () -> {
            due(1, loaded("0a+=0").count(5));
            due(3, loaded("0a+=1;0a+=1;0a+=1").count(5));
            SlotProbe x = loaded("0a+=1;0a+=2");
            x.spoil(0, 0, 0, 1);
            write(x, "3b-=-4");
            x.load();
            due(4, x.count(5));
        });
        says(22, "a refused spoil() or load() is not counted", () -> {
            SlotProbe x = reads(900);
            int counted = x.count(5);
            outcome(x, y -> y.spoil(15, 1, 1, 1));
            write(x, "0a+=1;0a+=1;");
            outcome(x, SlotProbe::load);
            due(counted, x.count(5));
        });
        says(22, "levels with a turn other than 0: none to all", () -> {
            SlotProbe x = new SlotProbe();
            for (int level = 0; level < 16; level++) {
                x.turn(level, 1 + level % 3);
                due(level + 1, x.count(6));
            }
            x.turn(0, 3);
            due(16, x.count(6));
            x.turn(0, 0);
            due(15, x.count(6));
        });
        says(22, "saved states: at most 6", () -> {
            SlotProbe x = surveyed(6);
            due(6, x.count(7));
            x.drop();
            due(6, x.count(7));
            x.undo();
            due(5, x.count(7));
        });
        says(22, "nothing is changed", () -> changesNothing(SlotProbeEdges::busy, x -> x.count(7)));
    }

    private static void setting() {
        says(23, "setting: 0 to 2", () -> range(0, 2, INDEX, SlotProbe::setting));
        says(23, "returns its value: the ends", () -> {
            SlotProbe x = new SlotProbe();
            x.set(0, 99);
            due(99, x.setting(0));
            x.set(0, 0);
            x.set(1, 0);
            due(0, x.setting(0));
            due(0, x.setting(1));
            due(1, x.setting(2));
        });
        says(23, "nothing is changed", () -> changesNothing(SlotProbeEdges::busy, x -> x.setting(2)));
    }

    // ---- promises 24 to 30

    private static void moved() {
        says(24, "first: a survey", () -> range(0, 2, INDEX, (x, first) -> x.moved(first, 0, 15, 1)));
        says(24, "second: a survey", () -> range(0, 2, INDEX, (x, second) -> x.moved(0, second, 15, 1)));
        says(24, "level: 0 to 15", () -> range(0, 15, INDEX, (x, level) -> x.moved(0, 1, level, 1)));
        says(24, "plane: 0 or 1", () -> range(0, 1, INDEX, (x, plane) -> x.moved(0, 1, 15, plane)));
        says(24, "no such survey: none at all", () -> refuses(INDEX, SlotProbeEdges::fresh, x -> x.moved(0, 0, 0, 0)));
        says(24, "a survey against itself: nothing moved", () -> due(0, busy().moved(2, 2, 15, 0)));
        says(24, "its place by the second one less that by the first one: the ends", () -> {
            SlotProbe x = leaning(-99);
            for (int level = 0; level < 16; level++) {
                x.bend(level, 0, 99);
            }
            x.survey();
            due(198, x.moved(0, 1, 0, 0));
            due(3168, x.moved(0, 1, 15, 0));
            due(-3168, x.moved(1, 0, 15, 0));
            due(0, x.moved(0, 1, 15, 1));
        });
        says(24, "below the level that slid nothing moved, from it up to the head all", () -> {
            SlotProbe x = slid(9, 0, -4);
            due(0, x.moved(0, 1, 8, 0));
            due(-4, x.moved(0, 1, 9, 0));
            due(-4, x.moved(0, 1, 15, 0));
        });
        says(24, "nothing is changed", () -> changesNothing(SlotProbeEdges::busy, x -> x.moved(0, 2, 15, 0)));
    }

    private static void slidesAt() {
        says(25, "first: a survey", () -> range(0, 2, INDEX, (x, first) -> x.slidesAt(first, 0, 1)));
        says(25, "second: a survey", () -> range(0, 2, INDEX, (x, second) -> x.slidesAt(0, second, 1)));
        says(25, "plane: 0 or 1", () -> range(0, 1, INDEX, (x, plane) -> x.slidesAt(0, 1, plane)));
        says(25, "no such survey: none at all", () -> refuses(INDEX, SlotProbeEdges::fresh, x -> x.slidesAt(0, 0, 0)));
        says(25, "the level whose tilt differs the most: at the toe, at the head, by 1", () -> {
            due(0, slid(0, 0, 1).slidesAt(0, 1, 0));
            due(15, slid(15, 0, -1).slidesAt(0, 1, 0));
        });
        says(25, "without a sign", () -> {
            SlotProbe x = slid(12, 0, -9);
            x.drop();
            x.bend(3, 0, 8);
            x.survey();
            due(12, x.slidesAt(0, 1, 0));
            due(12, x.slidesAt(1, 0, 0));
        });
        says(25, "of several the lowest", () -> {
            SlotProbe x = slid(12, 0, -9);
            x.drop();
            x.bend(3, 0, 9);
            x.bend(15, 0, 9);
            x.survey();
            due(3, x.slidesAt(0, 1, 0));
            due(3, x.slidesAt(1, 0, 0));
        });
        says(25, "NONE if none differs", () -> {
            due(SlotProbe.NONE, slid(15, 9, 9).slidesAt(0, 1, 0));
            due(SlotProbe.NONE, slid(15, 9, 8).slidesAt(0, 1, 1));
            due(SlotProbe.NONE, slid(15, 9, 8).slidesAt(1, 1, 0));
        });
        says(25, "nothing is changed", () -> changesNothing(SlotProbeEdges::busy, x -> x.slidesAt(0, 2, 0)));
    }

    /** The level 9 moved by 990, and the level 10 by this more. */
    private static SlotProbe slidFar(int more) {
        SlotProbe x = surveyed(1);
        for (int level = 0; level < 10; level++) {
            x.bend(level, 0, 99);
        }
        x.bend(10, 0, more);
        x.survey();
        return x;
    }

    private static void firstMoved() {
        says(26, "first: a survey", () -> range(0, 2, INDEX, (x, first) -> x.firstMoved(first, 0, 1, 1)));
        says(26, "second: a survey", () -> range(0, 2, INDEX, (x, second) -> x.firstMoved(0, second, 1, 1)));
        says(26, "plane: 0 or 1", () -> range(0, 1, INDEX, (x, plane) -> x.firstMoved(0, 1, plane, 1)));
        says(26, "by: 1 to 999", () -> range(1, 999, ARGUMENT, (x, by) -> x.firstMoved(0, 1, 0, by)));
        says(26, "no such survey: none at all", () ->
            refuses(INDEX, SlotProbeEdges::fresh, x -> x.firstMoved(0, 0, 0, 1)));
        says(26, "by at least so much", () -> {
            due(0, slid(0, 0, 1).firstMoved(0, 1, 0, 1));
            due(15, slid(15, 0, 7).firstMoved(0, 1, 0, 7));
            due(SlotProbe.NONE, slid(15, 0, 7).firstMoved(0, 1, 0, 8));
            due(15, slid(15, 0, 8).firstMoved(0, 1, 0, 7));
        });
        says(26, "by at least 999", () -> {
            due(10, slidFar(9).firstMoved(0, 1, 0, 999));
            due(10, slidFar(9).firstMoved(1, 0, 0, 999));
            due(SlotProbe.NONE, slidFar(8).firstMoved(0, 1, 0, 999));
            due(10, slidFar(8).firstMoved(0, 1, 0, 998));
        });
        says(26, "without a sign", () -> {
            due(15, slid(15, 0, -7).firstMoved(0, 1, 0, 7));
            due(15, slid(15, 0, 7).firstMoved(1, 0, 0, 7));
            due(SlotProbe.NONE, slid(15, 0, -6).firstMoved(0, 1, 0, 7));
        });
        says(26, "the lowest level", () -> due(6, slid(6, 0, 50).firstMoved(0, 1, 0, 50)));
        says(26, "NONE if there is none", () -> {
            due(SlotProbe.NONE, slid(6, 50, 50).firstMoved(0, 1, 0, 1));
            due(SlotProbe.NONE, slid(6, 50, -50).firstMoved(0, 1, 1, 1));
            due(SlotProbe.NONE, slid(6, 50, -50).firstMoved(1, 1, 0, 1));
        });
        says(26, "nothing is changed", () -> changesNothing(SlotProbeEdges::busy, x -> x.firstMoved(0, 2, 0, 1)));
    }

    private static void speed() {
        says(27, "first: a survey", () -> range(0, 2, INDEX, (x, first) -> x.speed(first, 0, 1)));
        says(27, "second: a survey", () -> range(0, 2, INDEX, (x, second) -> x.speed(0, second, 1)));
        says(27, "plane: 0 or 1", () -> range(0, 1, INDEX, (x, plane) -> x.speed(0, 1, plane)));
        says(27, "no such survey: none at all", () -> refuses(INDEX, SlotProbeEdges::fresh, x -> x.speed(0, 0, 0)));
        says(27, "0.0 if both are of one day", () -> {
            due(0.0, slid(15, 0, 99).speed(0, 1, 0));
            due(0.0, slid(15, 0, -99).speed(0, 1, 0));
            due(0.0, busy().speed(2, 2, 0));
        });
        says(27, "divided by the day of the second survey less that of the first one", () -> {
            SlotProbe x = surveyed(1);
            x.bend(15, 0, -1);
            for (int i = 0; i < 101; i++) {
                x.pass(99);
            }
            x.survey();
            due(-1 / 9999.0, x.speed(0, 1, 0));
            due(-1 / 9999.0, x.speed(1, 0, 0));
            due(0.0, x.speed(0, 1, 1));
        });
        says(27, "of one day less: the whole movement of the head", () -> {
            SlotProbe x = leaning(-99);
            x.pass(1);
            for (int level = 0; level < 16; level++) {
                x.bend(level, 0, 99);
            }
            x.survey();
            due(3168.0, x.speed(0, 1, 0));
            due(3168.0, x.speed(1, 0, 0));
        });
        says(27, "nothing is changed", () -> changesNothing(SlotProbeEdges::busy, x -> x.speed(0, 2, 0)));
    }

    private static void meanCheck() {
        says(28, "survey: its number", () -> range(0, 2, INDEX, (x, survey) -> x.meanCheck(survey, 1)));
        says(28, "own: 0 or 1", () -> range(0, 1, INDEX, (x, own) -> x.meanCheck(2, own)));
        says(28, "no such survey: none at all", () -> refuses(INDEX, SlotProbeEdges::fresh, x -> x.meanCheck(0, 0)));
        says(28, "the sum of its 16 checks as a float, divided by 16", () -> {
            due(0.0f, surveyed(1).meanCheck(0, 0));
            due(0.0625f, checked(1).meanCheck(0, 0));
            due(-0.0625f, checked(0, 0, 0, 0, 0, 0, 0, 0, 0, 0, 0, 0, 0, 0, 0, -1).meanCheck(0, 0));
            due(0.0f, checked(1).meanCheck(0, 1));
        });
        says(28, "spoiled checks are summed as they are: the ends", () -> {
            SlotProbe x = surveyed(1);
            spoilFar(x, 15, 0, 0, 900);
            spoilFar(x, 15, 0, 1, 900);
            spoilFar(x, 0, 1, 0, -900);
            spoilFar(x, 0, 1, 1, -900);
            due(112.5f, x.meanCheck(0, 0));
            due(-112.5f, x.meanCheck(0, 1));
        });
        says(28, "nothing is changed", () -> changesNothing(SlotProbeEdges::busy, x -> x.meanCheck(2, 1)));
    }

    private static void spread() {
        says(29, "survey: its number", () -> range(0, 2, INDEX, (x, survey) -> x.spread(survey, 1)));
        says(29, "own: 0 or 1", () -> range(0, 1, INDEX, (x, own) -> x.spread(2, own)));
        says(29, "no such survey: none at all", () -> refuses(INDEX, SlotProbeEdges::fresh, x -> x.spread(0, 0)));
        says(29, "0 if all checks are alike", () -> {
            SlotProbe x = new SlotProbe();
            x.bias(0, -50);
            x.survey();
            due(0.0, x.spread(0, 0));
            due(0.0, x.spread(0, 1));
        });
        says(29, "16 times the sum of the squares less the square of the sum, divided by 256", () -> {
            due(15 / 256.0, checked(1).spread(0, 0));
            due(15 / 256.0, checked(0, 0, 0, 0, 0, 0, 0, 0, 0, 0, 0, 0, 0, 0, 0, -1).spread(0, 0));
            due(32 / 256.0, checked(1, -1).spread(0, 0));
            due(0.0, checked(1).spread(0, 1));
        });
        says(29, "the ends of readings", () -> {
            SlotProbe x = surveyed(1);
            for (int level = 0; level < 16; level += 5) {
                spoilFar(x, level, 1, 0, 900);
                spoilFar(x, level, 1, 1, 900);
                spoilFar(x, level, 0, level % 2, level % 2 == 0 ? 900 : -900);
            }
            due((16 * 4 * 1800.0 * 1800.0 - 7200.0 * 7200.0) / 256.0, x.spread(0, 1));
            due(16 * 4 * 900.0 * 900.0 / 256.0, x.spread(0, 0));
        });
        says(29, "nothing is changed", () -> changesNothing(SlotProbeEdges::busy, x -> x.spread(2, 1)));
    }

    /** The list of promise 30, written out by hand. */
    private static final class Listed {
        private long hash = 3533;

        Listed put(long... values) {
            for (long value : values) {
                hash = 31 * hash + value;
            }
            return this;
        }

        Listed times(int times, long... values) {
            for (int i = 0; i < times; i++) {
                put(values);
            }
            return this;
        }
    }

    /** The head moved in three days by so much, alone. */
    private static SlotProbe headMoved(int by) {
        SlotProbe x = surveyed(1);
        x.pass(3);
        x.bend(15, 0, by);
        x.survey();
        return x;
    }

    private static long headMovedDigest(int by, int firstMoved, long speedBits) {
        Listed listed = new Listed().put(3, 2, 0, 0, 2, 0, 0, 4).put(2, 1, 1);
        listed.times(15 * 7, 0).put(by, 0, 0, by, -by, 0, 0);
        listed.times(5 + 32 * 8 + 4, 0);
        listed.put(3, 0, 0, 0, 0).times(30 * 8, 0).put(by, -by, 0, 0, by, by, by, by).times(8, 0).times(4, 0);
        listed.put(15, firstMoved, speedBits).put(-1, -1, 0);
        return listed.put(0, 0, 0).hash;
    }

    private static void digest() {
        says(30, "of a new object: without surveys, slots and a buffer", () ->
            due(new Listed().times(8, 0).put(2, 1, 1).times(16 * 7, 0).put(0, 0, 0).hash, new SlotProbe().digest()));
        says(30, "for each slot 1 if it has a snapshot; the length of the buffer and each of its codes", () -> {
            SlotProbe x = written("!~");
            x.keep(1);
            due(new Listed().times(8, 0).put(2, 1, 1).times(16 * 7, 0).put(0, 1, 2, 33, 126).hash, x.digest());
            write(x, "z".repeat(60));
            x.keep(0);
            due(new Listed().times(8, 0).put(2, 1, 1).times(16 * 7, 0).put(1, 1, 60).times(60, 'z').hash, x.digest());
        });
        says(30, "for each survey behind the first one: none behind one", () -> {
            SlotProbe x = new SlotProbe();
            x.bias(0, 3);
            x.survey();
            Listed listed = new Listed().put(0, 1, 3, 0, 1, 0, 0, 2).put(2, 1, 1).times(16, 0, 0, 0, 3, 3, 0, 0);
            listed.put(0, 6, 0, 0, 0).times(16, 3, 3, 6, 0, 0, 0, 0, 0, 0, 0, 0, 0, 0, 0, 0, 0);
            listed.put(0x40C00000, 0, 0, 0).put(0, 0, 0);
            due(listed.hash, x.digest());
        });
        says(30, "for each survey behind the first one, against the first one: NONE and 0.0 of straight ones", () -> {
            for (int surveys = 2; surveys <= 6; surveys++) {
                Listed listed = new Listed().put(0, surveys, 0, 0, surveys, 0, 0, surveys).put(2, 1, 1);
                listed.times(16 * 7, 0).times(surveys * (5 + 32 * 8 + 4), 0);
                listed.times((surveys - 1) * 2, -1, -1, 0).put(0, 0, 0);
                due(listed.hash, surveyed(surveys).digest());
            }
        });
        says(30, "firstMoved by 5, and the bits of speed: the ends of the one, a third for the other", () -> {
            due(headMovedDigest(4, SlotProbe.NONE, 0x3FF5555555555555L), headMoved(4).digest());
            due(headMovedDigest(5, 15, 0x3FFAAAAAAAAAAAABL), headMoved(5).digest());
            due(headMovedDigest(-5, 15, 0xBFFAAAAAAAAAAAABL), headMoved(-5).digest());
            due(headMovedDigest(99, 15, 0x4040800000000000L), headMoved(99).digest());
            due(headMovedDigest(1, SlotProbe.NONE, 0x3FD5555555555555L), headMoved(1).digest());
            due(headMovedDigest(-1, SlotProbe.NONE, 0xBFD5555555555555L), headMoved(-1).digest());
            due(headMovedDigest(3, SlotProbe.NONE, 0x3FF0000000000000L), headMoved(3).digest());
            due(headMovedDigest(6, 15, 0x4000000000000000L), headMoved(6).digest());
        });
        says(30, "the bits of meanCheck and of spread: less than 0, less than 1", () -> {
            SlotProbe x = surveyed(1);
            x.spoil(15, 1, 1, -1);
            Listed listed = new Listed().put(0, 1, 0, 0, 1, 1, 0, 2).put(2, 1, 1).times(16 * 7, 0);
            listed.put(0, 0, 0, 0, 15).times(31, 0, 0, 0, 0, 0, 0, 0, 0).put(0, -1, -1, 0, 0, 0, 0, 0);
            listed.put(0, 0, Float.floatToIntBits(-0.0625f), Double.doubleToLongBits(15 / 256.0)).put(0, 0, 0);
            due(listed.hash, x.digest());
        });
        says(30, "computes a hash, changes nothing", () -> changesNothing(SlotProbeEdges::busy, SlotProbe::digest));
    }

    public static void main(String[] args) {
        casing();
        commonChecks();
        tiltsRead();
        tiltsMended();
        tiltsTold();
        exceptions();
        newObject();
        bend();
        slide();
        turn();
        bias();
        set();
        pass();
        survey();
        drop();
        spoil();
        append();
        clearBuffer();
        firstError();
        load();
        keep();
        goBack();
        undo();
        levelOf();
        reading();
        surveyOf();
        place();
        count();
        setting();
        moved();
        slidesAt();
        firstMoved();
        speed();
        meanCheck();
        spread();
        digest();
        System.out.println(wrong == 0 ? sentences + " sentences hold" : wrong + " answers are not as due");
        if (wrong != 0) {
            System.exit(1);
        }
    }
}
