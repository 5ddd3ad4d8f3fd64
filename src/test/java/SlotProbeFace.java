import java.lang.reflect.Constructor;
import java.lang.reflect.Field;
import java.lang.reflect.Method;
import java.lang.reflect.Modifier;
import java.nio.file.Files;
import java.nio.file.Path;
import java.util.Arrays;
import java.util.HashMap;
import java.util.Map;
import java.util.Set;
import java.util.TreeSet;
import java.util.regex.Matcher;
import java.util.regex.Pattern;

/** The face of the class is the document's, and its source keeps to what of LANGUAGE.md a scan can tell. */
public final class SlotProbeFace {

    private static final String INDEX = " IndexOutOfBoundsException";
    private static final String ARGUMENT = " IllegalArgumentException";
    private static final String STATE = " IllegalStateException";

    private static final String[] FACE = {
        "int bend 3" + INDEX + ARGUMENT, "int slide 3" + INDEX + ARGUMENT, "int turn 2" + INDEX + ARGUMENT,
        "int bias 2" + INDEX + ARGUMENT, "int set 2" + INDEX + ARGUMENT, "int pass 1" + ARGUMENT + STATE,
        "int survey 0" + STATE, "int drop 0" + STATE, "int spoil 4" + INDEX + ARGUMENT + STATE,
        "int append 1" + ARGUMENT + STATE, "int clearBuffer 0", "int firstError 0", "int load 0" + STATE + ARGUMENT,
        "int keep 1" + ARGUMENT, "int goBack 1" + ARGUMENT + STATE, "int undo 0" + STATE,
        "int levelOf 2" + INDEX + ARGUMENT, "int reading 4" + INDEX + ARGUMENT, "int surveyOf 2" + INDEX + ARGUMENT,
        "int place 4" + INDEX + ARGUMENT, "int count 1" + ARGUMENT, "int setting 1" + INDEX, "int moved 4" + INDEX,
        "int slidesAt 3" + INDEX, "int firstMoved 4" + INDEX + ARGUMENT, "double speed 3" + INDEX,
        "float meanCheck 2" + INDEX, "double spread 2" + INDEX, "long digest 0",
    };

    private static final String[] FORBIDDEN = {
        "\\bimport\\b", "\\bpackage\\b", "->", "::", "\\bfinally\\b", "\\bsynchronized\\b", "\\bassert\\b",
        "\\btry\\b", "\\bvar\\b", "Exact\\(", "\\bDouble\\.", "\\bFloat\\.", "\\bObject\\b",
        "\\bprotected\\b", "[^\\x00-\\x7e]",
        "\\bthrow new (?!IllegalStateException|IllegalArgumentException|IndexOutOfBoundsException)",
    };

    private static int wrong = 0;

    private static void due(boolean holds, String what) {
        if (!holds) {
            wrong++;
            System.out.println("not so: " + what);
        }
    }

    private static String told(Method method) {
        StringBuilder text = new StringBuilder();
        text.append(method.getReturnType().getSimpleName()).append(' ').append(method.getName());
        text.append(' ').append(method.getParameterCount());
        for (Class<?> thrown : method.getExceptionTypes()) {
            text.append(' ').append(thrown.getSimpleName());
        }
        return text.toString();
    }

    private static Set<String> checkFace() throws Exception {
        due(SlotProbe.class.getModifiers() == (Modifier.PUBLIC | Modifier.FINAL), "the class is public and final");
        Constructor<?>[] made = SlotProbe.class.getDeclaredConstructors();
        due(made.length == 1 && Modifier.isPublic(made[0].getModifiers()) && made[0].getParameterCount() == 0,
            "one public constructor without parameters");
        Set<String> faces = new TreeSet<>();
        Set<String> names = new TreeSet<>();
        for (Method method : SlotProbe.class.getDeclaredMethods()) {
            if (Modifier.isPublic(method.getModifiers())) {
                faces.add(told(method));
                names.add(method.getName());
                due(method.getModifiers() == Modifier.PUBLIC, method.getName() + " is public alone");
                for (Class<?> parameter : method.getParameterTypes()) {
                    due(parameter == int.class, method.getName() + " takes ints");
                }
            }
        }
        due(faces.equals(new TreeSet<>(Arrays.asList(FACE))), "the public methods are the document's: " + faces);
        Field none = SlotProbe.class.getField("NONE");
        due(none.getType() == int.class && Modifier.isStatic(none.getModifiers())
            && Modifier.isFinal(none.getModifiers()), "NONE is a constant");
        due(SlotProbe.class.getFields().length == 1, "NONE is the only public field");
        return names;
    }

    private static void checkMembers(Class<?> owner, Set<String> names) {
        int fields = 0;
        for (Field field : owner.getDeclaredFields()) {
            int modifiers = field.getModifiers();
            boolean isConstant = Modifier.isStatic(modifiers);
            due(!isConstant || Modifier.isFinal(modifiers), field + " is final");
            fields += isConstant ? 0 : 1;
            due(owner != SlotProbe.class || Modifier.isPrivate(modifiers) || field.getName().equals("NONE"),
                field + " is private");
        }
        due(fields <= 20, owner + " has at most twenty fields");
        for (Method method : owner.getDeclaredMethods()) {
            due(method.getParameterCount() <= 7, method + " takes at most seven parameters");
            if (owner == SlotProbe.class && Modifier.isPublic(method.getModifiers())) {
                continue;
            }
            due(owner != SlotProbe.class || Modifier.isPrivate(method.getModifiers()), method + " is private");
            due(!names.contains(method.getName()), method + " bears no public name");
        }
    }

    /** The source without its remarks. */
    private static String code() throws Exception {
        String source = Files.readString(Path.of("src/main/java/SlotProbe.java"));
        return source.replaceAll("(?s)/\\*.*?\\*/", "").replaceAll("//[^\n]*", "");
    }

    private static void checkSource(String code) {
        for (String forbidden : FORBIDDEN) {
            Matcher found = Pattern.compile(forbidden).matcher(code);
            due(!found.find(), "the source is without " + forbidden);
        }
    }

    private static final Pattern METHOD = Pattern.compile(
        "(?ms)^((?: {4}){1,2})(?:(?:public|private|static|final) )*(?:[\\w\\[\\]]+ )?(\\w+)\\([^()]*\\)[^;{}]*\\{\n(.*?)^\\1\\}");
    private static final Pattern CALLED = Pattern.compile("\\b(\\w+)\\(");

    /** By names alone: bodies of one name count as one, which can only make a call look deeper than it is. */
    private static Map<String, String> bodies(String code) {
        Map<String, String> bodies = new HashMap<>();
        Matcher method = METHOD.matcher(code);
        while (method.find()) {
            due(method.group(3).split("\n").length <= 60, method.group(2) + " has at most sixty lines");
            bodies.merge(method.group(2), method.group(3), String::concat);
        }
        return bodies;
    }

    private static int depth(String name, Map<String, String> bodies, String callers) {
        if (callers.contains(" " + name + " ")) {
            due(false, name + " is no recursion:" + callers);
            return 0;
        }
        int deepest = 0;
        Matcher called = CALLED.matcher(bodies.get(name));
        while (called.find()) {
            if (bodies.containsKey(called.group(1))) {
                deepest = Math.max(deepest, depth(called.group(1), bodies, callers + name + " "));
            }
        }
        return 1 + deepest;
    }

    private static void checkDepths(String code, Set<String> names) {
        Map<String, String> bodies = bodies(code);
        due(bodies.keySet().containsAll(names), "the scan finds each public method in " + bodies.keySet());
        due(depth("digest", bodies, " ") >= 5, "the scan follows the calls of digest");
        for (String name : bodies.keySet()) {
            int depth = depth(name, bodies, " ");
            due(depth <= 8, name + " goes at most eight calls deep: " + depth);
        }
    }

    public static void main(String[] args) throws Exception {
        Set<String> names = checkFace();
        checkMembers(SlotProbe.class, names);
        Class<?>[] inside = SlotProbe.class.getDeclaredClasses();
        due(inside.length <= 12, "at most twelve classes");
        for (Class<?> owner : inside) {
            due(Modifier.isStatic(owner.getModifiers()) && Modifier.isPrivate(owner.getModifiers()),
                owner + " is private and static");
            checkMembers(owner, names);
        }
        checkSource(code());
        checkDepths(code(), names);
        System.out.println(wrong == 0 ? "the face is as due" : wrong + " things are not as due");
        if (wrong != 0) {
            System.exit(1);
        }
    }
}
