/** Each promise by hand: ordinary inputs, the edges that the document names, and wrong inputs. */
public final class SlotProbePromises {

    private static final String INDEX = "IndexOutOfBoundsException";
    private static final String ARGUMENT = "IllegalArgumentException";
    private static final String STATE = "IllegalStateException";

    private static int wrong = 0;
    private static int promise = 0;

    private interface Call {
        Object answer();
    }

    private static void due(Object want, Call call) {
        check(String.valueOf(want), call);
    }

    /** The call throws just this, and the digest stays as it is. */
    private static void dueThrow(SlotProbe x, String name, Call call) {
        long before = x.digest();
        check("throws " + name, call);
        check(String.valueOf(before), x::digest);
    }

    private static void check(String want, Call call) {
        String got;
        try {
            got = String.valueOf(call.answer());
        } catch (RuntimeException e) {
            got = "throws " + e.getClass().getSimpleName();
        }
        if (!got.equals(want)) {
            wrong++;
            StackTraceElement[] stack = new Throwable().getStackTrace();
            System.out.println("promise " + promise + ", line " + stack[2].getLineNumber() + ": answered " + got
                + ", due is " + want);
        }
    }

    private static void write(SlotProbe x, String text) {
        x.clearBuffer();
        for (char sign : text.toCharArray()) {
            x.append(sign);
        }
    }

    private static void newObject() {
        SlotProbe x = new SlotProbe();
        for (int what = 0; what < 8; what++) {
            int at = what;
            due(0, () -> x.count(at));
        }
        for (int level = 0; level < 16; level++) {
            for (int what = 0; what < 7; what++) {
                int l = level;
                int at = what;
                due(0, () -> x.levelOf(l, at));
            }
        }
        due(2, () -> x.setting(0));
        due(1, () -> x.setting(1));
        due(1, () -> x.setting(2));
        due(0, x::clearBuffer);
        dueThrow(x, STATE, () -> x.goBack(0));
        dueThrow(x, STATE, () -> x.goBack(1));
        dueThrow(x, STATE, x::undo);
        due(-1, () -> SlotProbe.NONE);
    }

    private static void bend() {
        SlotProbe x = new SlotProbe();
        due(0, () -> x.bend(0, 0, 99));
        due(99, () -> x.bend(0, 0, -99));
        due(0, () -> x.bend(15, 1, 7));
        due(-99, () -> x.levelOf(0, 0));
        due(0, () -> x.levelOf(0, 1));
        due(7, () -> x.levelOf(15, 1));
        due(7, () -> x.bend(15, 1, 7));
        due(4, () -> x.count(7));
        dueThrow(x, INDEX, () -> x.bend(-1, 0, 0));
        dueThrow(x, INDEX, () -> x.bend(16, 0, 100));
        dueThrow(x, INDEX, () -> x.bend(0, -1, 0));
        dueThrow(x, INDEX, () -> x.bend(0, 2, 100));
        dueThrow(x, ARGUMENT, () -> x.bend(0, 0, 100));
        dueThrow(x, ARGUMENT, () -> x.bend(0, 0, -100));
        dueThrow(x, ARGUMENT, () -> x.bend(0, 0, Integer.MIN_VALUE));
    }

    private static void slide() {
        SlotProbe x = new SlotProbe();
        due(60, () -> x.slide(3, 1, 60));
        due(99, () -> x.slide(3, 1, 60));
        due(0, () -> x.slide(3, 1, -99));
        due(-99, () -> x.slide(3, 1, -99));
        due(-99, () -> x.slide(3, 1, -1));
        due(-99, () -> x.levelOf(3, 1));
        due(0, () -> x.slide(3, 0, 0));
        due(6, () -> x.count(7));
        dueThrow(x, INDEX, () -> x.slide(16, 0, 0));
        dueThrow(x, INDEX, () -> x.slide(-1, 0, 100));
        dueThrow(x, INDEX, () -> x.slide(0, 2, 0));
        dueThrow(x, ARGUMENT, () -> x.slide(0, 0, 100));
        dueThrow(x, ARGUMENT, () -> x.slide(0, 0, -100));
    }

    private static void turn() {
        SlotProbe x = new SlotProbe();
        due(0, () -> x.turn(15, 3));
        due(3, () -> x.turn(15, 1));
        due(0, () -> x.turn(0, 2));
        due(2, () -> x.turn(0, 0));
        due(1, () -> x.levelOf(15, 2));
        due(1, () -> x.count(6));
        due(4, () -> x.count(7));
        dueThrow(x, INDEX, () -> x.turn(16, 4));
        dueThrow(x, INDEX, () -> x.turn(-1, 0));
        dueThrow(x, ARGUMENT, () -> x.turn(0, 4));
        dueThrow(x, ARGUMENT, () -> x.turn(0, -1));
    }

    private static void bias() {
        SlotProbe x = new SlotProbe();
        due(0, () -> x.bias(0, 50));
        due(50, () -> x.bias(0, -50));
        due(0, () -> x.bias(1, 4));
        due(-50, () -> x.count(2));
        due(4, () -> x.count(3));
        due(3, () -> x.count(7));
        dueThrow(x, INDEX, () -> x.bias(2, 51));
        dueThrow(x, INDEX, () -> x.bias(-1, 0));
        dueThrow(x, ARGUMENT, () -> x.bias(0, 51));
        dueThrow(x, ARGUMENT, () -> x.bias(1, -51));
    }

    private static void set() {
        SlotProbe x = new SlotProbe();
        due(2, () -> x.set(0, 99));
        due(99, () -> x.set(0, 0));
        due(1, () -> x.set(1, 0));
        due(0, () -> x.set(1, 1));
        due(1, () -> x.set(2, 0));
        due(0, () -> x.setting(0));
        due(1, () -> x.setting(1));
        due(0, () -> x.setting(2));
        due(5, () -> x.count(7));
        dueThrow(x, INDEX, () -> x.set(3, 0));
        dueThrow(x, INDEX, () -> x.set(-1, 1000));
        dueThrow(x, ARGUMENT, () -> x.set(0, 100));
        dueThrow(x, ARGUMENT, () -> x.set(0, -1));
        dueThrow(x, ARGUMENT, () -> x.set(1, 2));
        dueThrow(x, ARGUMENT, () -> x.set(2, 2));
        dueThrow(x, ARGUMENT, () -> x.set(2, -1));
    }

    private static void pass() {
        SlotProbe x = new SlotProbe();
        due(1, () -> x.pass(1));
        for (int i = 0; i < 100; i++) {
            x.pass(99);
        }
        due(9901, () -> x.count(0));
        dueThrow(x, STATE, () -> x.pass(99));
        dueThrow(x, ARGUMENT, () -> x.pass(100));
        dueThrow(x, ARGUMENT, () -> x.pass(0));
        due(9999, () -> x.pass(98));
        dueThrow(x, STATE, () -> x.pass(1));
        dueThrow(x, ARGUMENT, () -> x.pass(Integer.MAX_VALUE));
        due(5, x::undo);
        due(9901, () -> x.count(0));
    }

    private static void survey() {
        SlotProbe x = new SlotProbe();
        x.bend(4, 0, 10);
        x.bend(4, 1, 3);
        x.turn(4, 1);
        x.bias(0, 5);
        x.bias(1, -2);
        x.pass(7);
        due(0, x::survey);
        x.bend(4, 0, 50);
        due(8, () -> x.reading(0, 4, 0, 0));
        due(2, () -> x.reading(0, 4, 0, 1));
        due(-12, () -> x.reading(0, 4, 1, 0));
        due(8, () -> x.reading(0, 4, 1, 1));
        due(5, () -> x.reading(0, 15, 0, 0));
        due(7, () -> x.surveyOf(0, 0));
        for (int i = 1; i < 6; i++) {
            int number = i;
            due(number, x::survey);
        }
        due(-52, () -> x.reading(5, 4, 1, 0));
        dueThrow(x, STATE, x::survey);
        due(6, () -> x.count(1));
        due(6, () -> x.count(4));
        due(5, x::undo);
        due(5, () -> x.count(1));
        due(5, () -> x.count(4));
    }

    private static void drop() {
        SlotProbe x = new SlotProbe();
        dueThrow(x, STATE, x::drop);
        x.survey();
        x.survey();
        due(1, x::drop);
        due(0, x::drop);
        dueThrow(x, STATE, x::drop);
        due(2, () -> x.count(4));
        dueThrow(x, INDEX, () -> x.reading(0, 0, 0, 0));
        due(3, x::undo);
        due(1, () -> x.count(1));
        x.spoil(2, 0, 1, 9);
        x.drop();
        x.bend(2, 0, 4);
        due(0, x::survey);
        due(-4, () -> x.reading(0, 2, 0, 1));
    }

    private static void spoil() {
        SlotProbe x = new SlotProbe();
        dueThrow(x, INDEX, () -> x.spoil(16, 0, 0, 100));
        dueThrow(x, ARGUMENT, () -> x.spoil(0, 0, 0, 100));
        dueThrow(x, STATE, () -> x.spoil(0, 0, 0, 99));
        x.survey();
        x.survey();
        for (int i = 1; i <= 9; i++) {
            int times = i;
            due(99 * times, () -> x.spoil(15, 1, 1, 99));
        }
        dueThrow(x, STATE, () -> x.spoil(15, 1, 1, 10));
        due(900, () -> x.spoil(15, 1, 1, 9));
        dueThrow(x, STATE, () -> x.spoil(15, 1, 1, 1));
        due(900, () -> x.spoil(15, 1, 1, 0));
        due(11, () -> x.count(5));
        due(900, () -> x.reading(1, 15, 1, 1));
        due(0, () -> x.reading(0, 15, 1, 1));
        for (int i = 1; i <= 9; i++) {
            x.spoil(0, 0, 0, -99);
        }
        due(-900, () -> x.spoil(0, 0, 0, -9));
        dueThrow(x, STATE, () -> x.spoil(0, 0, 0, -1));
        dueThrow(x, INDEX, () -> x.spoil(0, 2, 0, 0));
        dueThrow(x, INDEX, () -> x.spoil(0, 0, 2, 0));
        dueThrow(x, INDEX, () -> x.spoil(0, 0, -1, 0));
        dueThrow(x, ARGUMENT, () -> x.spoil(0, 0, 0, -100));
        due(5, x::undo);
        due(20, () -> x.count(5));
        due(-891, () -> x.reading(1, 0, 0, 0));
    }

    private static void append() {
        SlotProbe x = new SlotProbe();
        due(1, () -> x.append(33));
        due(2, () -> x.append(126));
        dueThrow(x, ARGUMENT, () -> x.append(32));
        dueThrow(x, ARGUMENT, () -> x.append(127));
        for (int i = 3; i <= 60; i++) {
            int length = i;
            due(length, () -> x.append('a'));
        }
        dueThrow(x, STATE, () -> x.append('a'));
        dueThrow(x, ARGUMENT, () -> x.append(-1));
        due(0, () -> x.count(7));
        due(60, x::clearBuffer);
    }

    private static void clearBuffer() {
        SlotProbe x = new SlotProbe();
        due(0, x::clearBuffer);
        write(x, "12a");
        due(3, x::clearBuffer);
        due(0, x::clearBuffer);
        due(0, () -> x.count(7));
        due(1, () -> x.append('7'));
        due(1, x::firstError);
    }

    private static void errorAt(int want, String text) {
        SlotProbe x = new SlotProbe();
        write(x, text);
        due(want, x::firstError);
        due(text.length(), x::clearBuffer);
    }

    private static void firstError() {
        errorAt(0, "");
        errorAt(0, "a");
        errorAt(0, ";");
        errorAt(1, "0");
        errorAt(1, "00a+=1");
        errorAt(1, "01a+=1");
        errorAt(1, "16a+=1");
        errorAt(2, "15");
        errorAt(2, "150");
        errorAt(1, "20");
        errorAt(1, "1c");
        errorAt(1, "1+");
        errorAt(2, "1a=");
        errorAt(3, "1a++");
        errorAt(4, "1a+=");
        errorAt(4, "1a+=+1");
        errorAt(5, "1a+=--1");
        errorAt(5, "1a+=-0");
        errorAt(5, "1a+=-;");
        errorAt(5, "1a+=00");
        errorAt(4, "1a+=;");
        errorAt(7, "1a+=200");
        errorAt(6, "1a+=201");
        errorAt(6, "1a+=210");
        errorAt(6, "1a+=300");
        errorAt(7, "1a+=1999");
        errorAt(8, "1a+=-200");
        errorAt(7, "1a+=-201");
        errorAt(6, "1a+=5;");
        errorAt(6, "1a+=5;;");
        errorAt(7, "1a+=5;1");
        errorAt(13, "0b-=0;15a+=-7");
        errorAt(7, "9b-=199,");
        errorAt(5, "0a+=1");
        errorAt(60, "15a+=-100;15a+=-100;15a+=-100;15a+=-100;15a+=-100;15a+=-100;");
    }

    private static void load() {
        SlotProbe x = new SlotProbe();
        write(x, "x");
        dueThrow(x, STATE, x::load);
        x.survey();
        dueThrow(x, ARGUMENT, x::load);
        for (String text : new String[] {"", "1", "1a+=", "1a+=-", "1a+=5;", "1a+=5;2", "1a+=201"}) {
            write(x, text);
            dueThrow(x, ARGUMENT, x::load);
        }
        x.survey();
        write(x, "0a+=200;15b-=-200;0a+=-7;9a-=12");
        due(4, x::load);
        due(0, x::clearBuffer);
        due(-7, () -> x.reading(1, 0, 0, 0));
        due(-200, () -> x.reading(1, 15, 1, 1));
        due(12, () -> x.reading(1, 9, 0, 1));
        due(0, () -> x.reading(1, 15, 1, 0));
        due(0, () -> x.reading(0, 0, 0, 0));
        due(4, () -> x.count(5));
        due(3, () -> x.count(7));
        x.append('5');
        due(2, x::undo);
        due(0, () -> x.count(5));
        due(0, () -> x.reading(1, 0, 0, 0));
        due(1, x::clearBuffer);
        write(x, "0a+=1;1a+=1;2a+=1;3a+=1;4a+=1;5a+=1;6a+=1;7a+=1;8a+=1;9a+=1");
        due(10, x::load);
        due(10, () -> x.count(5));
    }

    private static void keepAndGoBack() {
        SlotProbe x = new SlotProbe();
        x.bend(1, 1, 9);
        x.survey();
        promise = 15;
        dueThrow(x, ARGUMENT, () -> x.keep(2));
        dueThrow(x, ARGUMENT, () -> x.keep(-1));
        due(1, () -> x.keep(1));
        due(2, () -> x.count(7));
        promise = 16;
        dueThrow(x, ARGUMENT, () -> x.goBack(2));
        dueThrow(x, ARGUMENT, () -> x.goBack(-1));
        dueThrow(x, STATE, () -> x.goBack(0));
        x.set(0, 50);
        x.pass(3);
        x.survey();
        x.spoil(0, 0, 0, 5);
        x.append('q');
        due(1, () -> x.goBack(1));
        due(6, () -> x.count(7));
        due(0, () -> x.count(0));
        due(1, () -> x.count(4));
        due(0, () -> x.count(5));
        due(2, () -> x.setting(0));
        due(9, () -> x.reading(0, 1, 1, 0));
        due(1, x::clearBuffer);
        x.drop();
        due(1, () -> x.goBack(1));
        promise = 15;
        x.drop();
        due(0, () -> x.keep(1));
        x.undo();
        due(1, () -> x.count(1));
        promise = 16;
        due(0, () -> x.goBack(1));
        dueThrow(x, STATE, () -> x.goBack(0));
        due(5, x::undo);
        due(1, () -> x.count(1));
    }

    private static void undo() {
        SlotProbe x = new SlotProbe();
        dueThrow(x, STATE, x::undo);
        for (int i = 1; i <= 8; i++) {
            x.bend(0, 0, i);
        }
        due(6, () -> x.count(7));
        for (int i = 7; i >= 2; i--) {
            int tilt = i;
            due(tilt - 2, x::undo);
            due(tilt, () -> x.levelOf(0, 0));
        }
        dueThrow(x, STATE, x::undo);
        x.append('1');
        x.bend(0, 0, 2);
        x.append('2');
        x.keep(0);
        due(1, () -> x.count(7));
        due(0, x::undo);
        due(2, () -> x.levelOf(0, 0));
        due(0, () -> x.goBack(0));
        due(2, x::clearBuffer);
        x.survey();
        x.spoil(0, 0, 0, 40);
        due(1, () -> x.surveyOf(0, 3));
        due(42, () -> x.place(0, 15, 0, 0));
        x.undo();
        due(0, () -> x.surveyOf(0, 3));
        due(2, () -> x.place(0, 15, 0, 0));
    }

    private static void undoOfManySurveys() {
        SlotProbe x = new SlotProbe();
        for (int i = 0; i < 6; i++) {
            x.bend(15, 1, 10 + i);
            x.pass(1);
            x.survey();
        }
        x.keep(1);
        long before = x.digest();
        x.spoil(15, 1, 1, 3);
        x.undo();
        x.drop();
        x.bend(15, 1, -40);
        x.survey();
        x.goBack(1);
        for (int i = 0; i < 6; i++) {
            int survey = i;
            due(10 + i, () -> x.reading(survey, 15, 1, 0));
            due(-10 - i, () -> x.reading(survey, 15, 1, 1));
            due(1 + i, () -> x.surveyOf(survey, 0));
        }
        due(before, x::digest);
        x.undo();
        due(-40, () -> x.reading(5, 15, 1, 0));
        x.undo();
        x.undo();
        x.undo();
        due(15, () -> x.reading(5, 15, 1, 0));
        due(-15, () -> x.reading(5, 15, 1, 1));
    }

    private static void levelOf() {
        SlotProbe x = new SlotProbe();
        x.bend(6, 0, 20);
        x.bend(6, 1, -3);
        x.bias(0, 4);
        x.bias(1, -1);
        int[][] met = {{24, -16, -4, 2}, {1, 7, -21, 19}, {-16, 24, 2, -4}, {7, 1, 19, -21}};
        for (int turn = 0; turn < 4; turn++) {
            x.turn(6, turn);
            int quarter = turn;
            due(20, () -> x.levelOf(6, 0));
            due(-3, () -> x.levelOf(6, 1));
            due(quarter, () -> x.levelOf(6, 2));
            for (int face = 0; face < 4; face++) {
                int at = face;
                due(met[quarter][at], () -> x.levelOf(6, 3 + at));
            }
        }
        dueThrow(x, INDEX, () -> x.levelOf(16, 7));
        dueThrow(x, INDEX, () -> x.levelOf(-1, 0));
        dueThrow(x, ARGUMENT, () -> x.levelOf(0, 7));
        dueThrow(x, ARGUMENT, () -> x.levelOf(0, -1));
    }

    private static void readingsSpoiledAndMended() {
        SlotProbe x = new SlotProbe();
        x.bias(0, -3);
        x.bend(5, 0, 11);
        x.survey();
        x.spoil(5, 0, 0, 2);
        due(0, () -> x.reading(0, 5, 0, 3));
        due(12, () -> x.reading(0, 5, 0, 4));
        x.spoil(5, 0, 0, 1);
        due(11, () -> x.reading(0, 5, 0, 0));
        due(-14, () -> x.reading(0, 5, 0, 1));
        due(-3, () -> x.reading(0, 5, 0, 2));
        due(1, () -> x.reading(0, 5, 0, 3));
        due(14, () -> x.reading(0, 5, 0, 4));
        x.set(1, 0);
        due(12, () -> x.reading(0, 5, 0, 4));
        x.set(1, 1);
        x.set(0, 3);
        due(12, () -> x.reading(0, 5, 0, 4));
        x.set(0, 2);
        x.survey();
        x.spoil(5, 0, 1, 9);
        due(11, () -> x.reading(1, 5, 0, 4));
        x.spoil(5, 0, 1, -15);
        due(1, () -> x.reading(1, 5, 0, 3));
        due(11, () -> x.reading(1, 5, 0, 4));
        x.drop();
        x.bend(5, 0, 17);
        x.survey();
        x.spoil(5, 0, 0, -3);
        due(14, () -> x.reading(1, 5, 0, 4));
        x.spoil(5, 0, 0, 7);
        x.spoil(5, 0, 1, 3);
        due(14, () -> x.reading(1, 5, 0, 4));
        x.spoil(5, 0, 0, -11);
        due(14, () -> x.reading(1, 5, 0, 4));
        x.spoil(5, 0, 1, -6);
        x.spoil(5, 0, 0, 7);
        due(1, () -> x.reading(1, 5, 0, 3));
        due(17, () -> x.reading(1, 5, 0, 4));
    }

    private static void aheadAlikeNear() {
        SlotProbe x = new SlotProbe();
        x.survey();
        x.survey();
        x.spoil(3, 1, 0, 8);
        x.spoil(3, 1, 1, 8);
        due(8, () -> x.reading(1, 3, 1, 4));
        x.spoil(3, 1, 1, -1);
        due(-7, () -> x.reading(1, 3, 1, 4));
        x.survey();
        x.spoil(3, 1, 0, -6);
        x.spoil(3, 1, 1, 20);
        due(-6, () -> x.reading(2, 3, 1, 4));
        x.spoil(3, 1, 0, 5);
        x.spoil(3, 1, 1, -13);
        due(-7, () -> x.reading(2, 3, 1, 4));
    }

    private static void halvesAndTurns() {
        SlotProbe x = new SlotProbe();
        x.bend(2, 0, 10);
        x.bend(2, 1, 4);
        x.survey();
        x.spoil(2, 0, 0, -1);
        due(9, () -> x.reading(0, 2, 0, 4));
        x.spoil(2, 0, 0, -20);
        x.set(1, 0);
        x.spoil(2, 0, 1, 10);
        due(-11, () -> x.reading(0, 2, 0, 0));
        due(0, () -> x.reading(0, 2, 0, 1));
        due(-5, () -> x.reading(0, 2, 0, 4));
        int[][] told = {{-5, 4}, {-4, -5}, {5, -4}, {4, 5}};
        for (int turn = 0; turn < 4; turn++) {
            x.turn(2, turn);
            int quarter = turn;
            due(told[quarter][0], () -> x.reading(0, 2, 0, 5));
            due(told[quarter][1], () -> x.reading(0, 2, 1, 5));
        }
        x.set(2, 0);
        due(-5, () -> x.reading(0, 2, 0, 5));
        due(4, () -> x.reading(0, 2, 1, 5));
        dueThrow(x, INDEX, () -> x.reading(1, 0, 0, 6));
        dueThrow(x, INDEX, () -> x.reading(-1, 0, 0, 0));
        dueThrow(x, INDEX, () -> x.reading(0, 16, 0, 0));
        dueThrow(x, INDEX, () -> x.reading(0, 0, 2, 0));
        dueThrow(x, ARGUMENT, () -> x.reading(0, 0, 0, 6));
        dueThrow(x, ARGUMENT, () -> x.reading(0, 0, 0, -1));
    }

    private static void surveyOf() {
        SlotProbe x = new SlotProbe();
        x.bias(1, 10);
        x.pass(12);
        x.survey();
        due(12, () -> x.surveyOf(0, 0));
        due(0, () -> x.surveyOf(0, 1));
        due(20, () -> x.surveyOf(0, 2));
        due(0, () -> x.surveyOf(0, 3));
        due(0, () -> x.surveyOf(0, 4));
        for (int level = 0; level < 8; level++) {
            x.spoil(level, 0, 0, -5 - level);
        }
        due(-5, () -> x.surveyOf(0, 1));
        due(13, () -> x.surveyOf(0, 3));
        due(7, () -> x.surveyOf(0, 4));
        x.spoil(3, 0, 0, 8);
        due(0, () -> x.surveyOf(0, 1));
        due(7, () -> x.surveyOf(0, 3));
        due(7, () -> x.surveyOf(0, 4));
        x.spoil(11, 1, 1, 12);
        due(7, () -> x.surveyOf(0, 4));
        x.spoil(11, 1, 1, 1);
        due(11, () -> x.surveyOf(0, 4));
        x.spoil(2, 1, 0, -13);
        due(2, () -> x.surveyOf(0, 4));
        due(20, () -> x.surveyOf(0, 2));
        due(9, () -> x.surveyOf(0, 3));
        x.set(0, 99);
        due(0, () -> x.surveyOf(0, 3));
        due(2, () -> x.surveyOf(0, 4));
        x.survey();
        x.spoil(9, 1, 0, -1);
        due(9, () -> x.surveyOf(1, 4));
        x.spoil(0, 0, 1, -1);
        due(0, () -> x.surveyOf(1, 4));
        x.spoil(9, 0, 0, -1);
        due(0, () -> x.surveyOf(1, 4));
        x.drop();
        dueThrow(x, INDEX, () -> x.surveyOf(1, 5));
        dueThrow(x, INDEX, () -> x.surveyOf(-1, 0));
        dueThrow(x, ARGUMENT, () -> x.surveyOf(0, 5));
        dueThrow(x, ARGUMENT, () -> x.surveyOf(0, -1));
    }

    private static void place() {
        SlotProbe x = new SlotProbe();
        for (int level = 0; level < 16; level++) {
            x.bend(level, 0, level + 1);
            x.bend(level, 1, -2);
        }
        x.survey();
        for (int level = 0; level < 16; level++) {
            int at = level;
            for (int way = 0; way < 2; way++) {
                int what = way;
                due((at + 1) * (at + 2) / 2, () -> x.place(0, at, 0, what));
                due(-2 * (at + 1), () -> x.place(0, at, 1, what));
            }
        }
        x.turn(0, 1);
        due(2, () -> x.place(0, 0, 0, 0));
        due(4, () -> x.place(0, 1, 0, 1));
        due(1, () -> x.place(0, 0, 1, 0));
        dueThrow(x, INDEX, () -> x.place(1, 0, 0, 2));
        dueThrow(x, INDEX, () -> x.place(0, 16, 0, 0));
        dueThrow(x, INDEX, () -> x.place(0, -1, 0, 0));
        dueThrow(x, INDEX, () -> x.place(0, 0, 2, 0));
        dueThrow(x, ARGUMENT, () -> x.place(0, 0, 0, 2));
        dueThrow(x, ARGUMENT, () -> x.place(0, 0, 0, -1));
    }

    private static void count() {
        SlotProbe x = new SlotProbe();
        x.pass(5);
        x.bias(0, 8);
        x.bias(1, -9);
        x.turn(0, 1);
        x.turn(9, 3);
        x.survey();
        x.survey();
        x.survey();
        x.drop();
        x.spoil(0, 0, 0, 0);
        write(x, "1a+=1;1a+=1");
        x.load();
        int[] counts = {5, 2, 8, -9, 3, 3, 2, 6};
        for (int what = 0; what < 8; what++) {
            int at = what;
            due(counts[at], () -> x.count(at));
        }
        dueThrow(x, ARGUMENT, () -> x.count(8));
        dueThrow(x, ARGUMENT, () -> x.count(-1));
    }

    private static void setting() {
        SlotProbe x = new SlotProbe();
        x.set(0, 31);
        x.set(2, 0);
        due(31, () -> x.setting(0));
        due(1, () -> x.setting(1));
        due(0, () -> x.setting(2));
        due(2, () -> x.count(7));
        dueThrow(x, INDEX, () -> x.setting(3));
        dueThrow(x, INDEX, () -> x.setting(-1));
    }

    /** Survey 0 on the day 0, survey 1 on the day 8, survey 2 on the day 8 too. */
    private static SlotProbe slidden() {
        SlotProbe x = new SlotProbe();
        x.survey();
        x.pass(8);
        x.slide(3, 0, 4);
        x.slide(7, 0, -9);
        x.slide(9, 0, 9);
        x.slide(5, 1, -30);
        x.survey();
        x.survey();
        return x;
    }

    /** Survey 1 differs by little, and at the toe. */
    private static SlotProbe sliddenAtToe() {
        SlotProbe x = new SlotProbe();
        x.survey();
        x.slide(0, 0, -1);
        x.slide(12, 0, 1);
        x.survey();
        return x;
    }

    private static void moved() {
        SlotProbe x = slidden();
        due(0, () -> x.moved(0, 1, 2, 0));
        due(4, () -> x.moved(0, 1, 3, 0));
        due(-5, () -> x.moved(0, 1, 8, 0));
        due(5, () -> x.moved(1, 0, 8, 0));
        due(4, () -> x.moved(0, 2, 15, 0));
        due(-30, () -> x.moved(0, 1, 15, 1));
        due(0, () -> x.moved(1, 2, 15, 1));
        SlotProbe toe = sliddenAtToe();
        due(-1, () -> toe.moved(0, 1, 0, 0));
        due(1, () -> toe.moved(1, 0, 11, 0));
        due(0, () -> toe.moved(0, 1, 12, 0));
        dueThrow(x, INDEX, () -> x.moved(3, 0, 0, 0));
        dueThrow(x, INDEX, () -> x.moved(0, 3, 0, 0));
        dueThrow(x, INDEX, () -> x.moved(-1, 0, 0, 0));
        dueThrow(x, INDEX, () -> x.moved(0, -1, 0, 0));
        dueThrow(x, INDEX, () -> x.moved(0, 0, 16, 0));
        dueThrow(x, INDEX, () -> x.moved(0, 0, 0, 2));
    }

    private static void slidesAt() {
        SlotProbe x = slidden();
        due(7, () -> x.slidesAt(0, 1, 0));
        due(7, () -> x.slidesAt(1, 0, 0));
        due(5, () -> x.slidesAt(0, 2, 1));
        due(-1, () -> x.slidesAt(1, 2, 0));
        due(-1, () -> x.slidesAt(0, 0, 0));
        due(0, () -> sliddenAtToe().slidesAt(0, 1, 0));
        due(-1, () -> sliddenAtToe().slidesAt(0, 1, 1));
        dueThrow(x, INDEX, () -> x.slidesAt(3, 0, 0));
        dueThrow(x, INDEX, () -> x.slidesAt(0, -1, 0));
        dueThrow(x, INDEX, () -> x.slidesAt(0, 1, 2));
    }

    private static void firstMoved() {
        SlotProbe x = slidden();
        due(3, () -> x.firstMoved(0, 1, 0, 1));
        due(3, () -> x.firstMoved(0, 1, 0, 4));
        due(7, () -> x.firstMoved(0, 1, 0, 5));
        due(-1, () -> x.firstMoved(0, 1, 0, 6));
        due(5, () -> x.firstMoved(1, 0, 1, 30));
        due(-1, () -> x.firstMoved(0, 1, 1, 999));
        due(-1, () -> x.firstMoved(1, 2, 1, 1));
        due(0, () -> sliddenAtToe().firstMoved(0, 1, 0, 1));
        due(-1, () -> sliddenAtToe().firstMoved(0, 1, 0, 2));
        dueThrow(x, INDEX, () -> x.firstMoved(3, 0, 0, 0));
        dueThrow(x, INDEX, () -> x.firstMoved(0, 3, 0, 1));
        dueThrow(x, INDEX, () -> x.firstMoved(0, 0, -1, 1));
        dueThrow(x, ARGUMENT, () -> x.firstMoved(0, 0, 0, 0));
        dueThrow(x, ARGUMENT, () -> x.firstMoved(0, 0, 0, 1000));
    }

    private static void speed() {
        SlotProbe x = slidden();
        due(0.5, () -> x.speed(0, 1, 0));
        due(0.5, () -> x.speed(1, 0, 0));
        due(-3.75, () -> x.speed(0, 1, 1));
        due(0.0, () -> x.speed(1, 2, 1));
        due(0.0, () -> x.speed(0, 0, 1));
        x.pass(3);
        x.survey();
        due(-30 / 11.0, () -> x.speed(0, 3, 1));
        x.set(1, 0);
        x.spoil(0, 1, 0, 50);
        due(-5 / 11.0, () -> x.speed(0, 3, 1));
        dueThrow(x, INDEX, () -> x.speed(4, 0, 0));
        dueThrow(x, INDEX, () -> x.speed(0, -1, 0));
        dueThrow(x, INDEX, () -> x.speed(0, 1, 2));
    }

    private static void meanCheckAndSpread() {
        SlotProbe x = new SlotProbe();
        x.bias(0, 7);
        x.survey();
        x.spoil(4, 0, 1, -9);
        x.spoil(6, 1, 0, -5);
        x.spoil(8, 1, 0, 2);
        promise = 28;
        due(13.4375f, () -> x.meanCheck(0, 0));
        due(-0.1875f, () -> x.meanCheck(0, 1));
        dueThrow(x, INDEX, () -> x.meanCheck(1, 0));
        dueThrow(x, INDEX, () -> x.meanCheck(-1, 0));
        dueThrow(x, INDEX, () -> x.meanCheck(0, 2));
        promise = 29;
        due((16 * (15 * 14 * 14 + 25) - 215 * 215) / 256.0, () -> x.spread(0, 0));
        due((16 * 29 - 9) / 256.0, () -> x.spread(0, 1));
        dueThrow(x, INDEX, () -> x.spread(1, 0));
        dueThrow(x, INDEX, () -> x.spread(-1, 0));
        dueThrow(x, INDEX, () -> x.spread(0, 2));
    }

    private static long hash;

    private static void put(long value) {
        hash = 31 * hash + value;
    }

    /** Built from what the looks answer; the model test holds digests against answers of its own. */
    private static long digestByLooks(SlotProbe x, int slot0, int slot1, String buffer) {
        hash = 3533;
        for (int what = 0; what < 8; what++) put(x.count(what));
        for (int setting = 0; setting < 3; setting++) put(x.setting(setting));
        for (int level = 0; level < 16; level++) {
            for (int what = 0; what < 7; what++) put(x.levelOf(level, what));
        }
        for (int survey = 0; survey < x.count(1); survey++) {
            for (int what = 0; what < 5; what++) put(x.surveyOf(survey, what));
            for (int level = 0; level < 16; level++) {
                for (int own = 0; own < 2; own++) {
                    for (int what = 0; what < 6; what++) put(x.reading(survey, level, own, what));
                    for (int what = 0; what < 2; what++) put(x.place(survey, level, own, what));
                }
            }
            for (int own = 0; own < 2; own++) {
                put(Float.floatToIntBits(x.meanCheck(survey, own)));
                put(Double.doubleToLongBits(x.spread(survey, own)));
            }
        }
        for (int survey = 1; survey < x.count(1); survey++) {
            for (int plane = 0; plane < 2; plane++) {
                put(x.slidesAt(0, survey, plane));
                put(x.firstMoved(0, survey, plane, 5));
                put(Double.doubleToLongBits(x.speed(0, survey, plane)));
            }
        }
        put(slot0);
        put(slot1);
        put(buffer.length());
        for (char sign : buffer.toCharArray()) put(sign);
        return hash;
    }

    private static void digest() {
        SlotProbe fresh = new SlotProbe();
        due(digestByLooks(fresh, 0, 0, ""), fresh::digest);
        SlotProbe x = slidden();
        due(digestByLooks(x, 0, 0, ""), x::digest);
        x.pass(99);
        x.survey();
        x.spoil(4, 0, 1, -99);
        x.spoil(5, 1, 1, 98);
        x.keep(1);
        write(x, "~!x");
        due(digestByLooks(x, 0, 1, "~!x"), x::digest);
        x.keep(0);
        x.turn(5, 2);
        x.bias(1, -50);
        x.survey();
        for (int i = 0; i < 8; i++) {
            x.spoil(0, 1, 0, 99);
            x.spoil(1, 1, 0, -99);
        }
        due(digestByLooks(x, 1, 1, "~!x"), x::digest);
        due(x.digest(), x::digest);
    }

    private static void run(int number, Runnable test) {
        promise = number;
        test.run();
    }

    public static void main(String[] args) {
        run(1, SlotProbePromises::newObject);
        run(2, SlotProbePromises::bend);
        run(3, SlotProbePromises::slide);
        run(4, SlotProbePromises::turn);
        run(5, SlotProbePromises::bias);
        run(6, SlotProbePromises::set);
        run(7, SlotProbePromises::pass);
        run(8, SlotProbePromises::survey);
        run(9, SlotProbePromises::drop);
        run(10, SlotProbePromises::spoil);
        run(11, SlotProbePromises::append);
        run(12, SlotProbePromises::clearBuffer);
        run(13, SlotProbePromises::firstError);
        run(14, SlotProbePromises::load);
        run(15, SlotProbePromises::keepAndGoBack);
        run(17, SlotProbePromises::undo);
        run(17, SlotProbePromises::undoOfManySurveys);
        run(18, SlotProbePromises::levelOf);
        run(19, SlotProbePromises::readingsSpoiledAndMended);
        run(19, SlotProbePromises::aheadAlikeNear);
        run(19, SlotProbePromises::halvesAndTurns);
        run(20, SlotProbePromises::surveyOf);
        run(21, SlotProbePromises::place);
        run(22, SlotProbePromises::count);
        run(23, SlotProbePromises::setting);
        run(24, SlotProbePromises::moved);
        run(25, SlotProbePromises::slidesAt);
        run(26, SlotProbePromises::firstMoved);
        run(27, SlotProbePromises::speed);
        run(28, SlotProbePromises::meanCheckAndSpread);
        run(30, SlotProbePromises::digest);
        System.out.println(wrong == 0 ? "all answers are as due" : wrong + " answers are not as due");
        if (wrong != 0) {
            System.exit(1);
        }
    }
}
