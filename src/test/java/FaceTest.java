import java.io.IOException;
import java.lang.reflect.Constructor;
import java.lang.reflect.Field;
import java.lang.reflect.Member;
import java.lang.reflect.Method;
import java.lang.reflect.Modifier;
import java.nio.file.Files;
import java.nio.file.Path;
import java.util.Arrays;
import java.util.Set;
import java.util.TreeSet;
import java.util.regex.Matcher;
import java.util.regex.Pattern;

/** The public face of the document, and what of LANGUAGE.md can be seen from the class and its text. */
public final class FaceTest {
    private static final String METHODS = "set 2, pen 4, line 4, leave 2, refill 1, penOf 2, lineOf 2, take 1, home 0, "
        + "draw 2, erase 1, waits 1, clean 0, whyNot 2, waitFor 2, strikers 0, room 1, spread 0, touch 2, touching 1, "
        + "seams 0, seamsBy 2, meanShade 0, fair 1, fairSpread 0, tour 2, count 1, undo 0, type 1, clearText 0, "
        + "fault 1, play 0";
    private static final String CONSTANTS = "INVALID_ARGUMENT -1000001, NOT_POSSIBLE -1000002, LIMIT_REACHED -1000003, "
        + "NOT_FOUND -1000004";
    private static final Path SOURCE = Path.of("src/main/java/PenStrike.java");
    private static final Set<String> LIBRARY = Set.of("Math.max", "Math.min", "Math.abs", "System.arraycopy");
    private static final String[] NOT_HERE = {"\\bimport\\b", "\\bpackage\\b", "->", "::", "\\bthrow\\b", "\\btry\\b",
        "\\bcatch\\b", "\\bfinally\\b", "\\bsynchronized\\b", "\\bassert\\b", "\\bstatic\\s*\\{", "\\bString\\b", "\"",
        "\\bFloat\\b", "\\bDouble\\b", "\\blong\\b", "\\bprotected\\b", "[^\\x00-\\x7f]", "\\t", "\\bfinalize\\b"};

    private static int wrong = 0;

    public static void main(String[] args) throws IOException, ReflectiveOperationException {
        lookAtFace();
        lookAtConstants();
        lookAtClassesInside();
        lookAtText(Files.readString(SOURCE));
        System.out.println(wrong + " wrong");
        if (wrong != 0) {
            System.exit(1);
        }
    }

    private static void hold(boolean is, String what) {
        if (!is) {
            wrong++;
            System.out.println(what);
        }
    }

    private static Set<String> parts(String list) {
        return new TreeSet<>(Arrays.asList(list.split(", ")));
    }

    private static void lookAtFace() {
        Set<String> methods = new TreeSet<>();
        for (Method method : PenStrike.class.getDeclaredMethods()) {
            if (isSeen(method)) {
                methods.add(method.getName() + " " + method.getParameterCount());
                hold(method.getReturnType() == int.class, method + " is not of int");
                hold(Arrays.stream(method.getParameterTypes()).allMatch(type -> type == int.class), method + " takes others than int");
                hold(!Modifier.isStatic(method.getModifiers()), method + " is static");
            }
        }
        hold(methods.equals(parts(METHODS)), "methods: " + methods);
        int modifiers = PenStrike.class.getModifiers();
        hold(Modifier.isPublic(modifiers) && Modifier.isFinal(modifiers), "the class is not public and final");
        Constructor<?>[] constructors = PenStrike.class.getDeclaredConstructors();
        hold(constructors.length == 1 && constructors[0].getParameterCount() == 0, "constructors");
    }

    private static boolean isSeen(Member member) {
        return !Modifier.isPrivate(member.getModifiers());
    }

    private static void lookAtConstants() throws ReflectiveOperationException {
        Set<String> constants = new TreeSet<>();
        for (Field field : PenStrike.class.getDeclaredFields()) {
            hold(!Modifier.isStatic(field.getModifiers()) || Modifier.isFinal(field.getModifiers()), field + " can change");
            if (isSeen(field)) {
                constants.add(field.getName() + " " + field.getInt(null));
                hold(field.getType() == int.class && Modifier.isStatic(field.getModifiers()), "" + field);
            }
        }
        hold(constants.equals(parts(CONSTANTS)), "constants: " + constants);
    }

    private static void lookAtClassesInside() {
        Class<?>[] inside = PenStrike.class.getDeclaredClasses();
        hold(inside.length <= 11, inside.length + " classes inside");
        Set<String> face = new TreeSet<>();
        parts(METHODS).forEach(method -> face.add(method.split(" ")[0]));
        lookAtNames(PenStrike.class, face);
        for (Class<?> each : inside) {
            int modifiers = each.getModifiers();
            hold(Modifier.isStatic(modifiers) && !Modifier.isPublic(modifiers) && !Modifier.isProtected(modifiers), "" + each);
            hold(each.getDeclaredFields().length <= 20, each + " has many fields");
            lookAtNames(each, face);
        }
    }

    private static void lookAtNames(Class<?> in, Set<String> face) {
        for (Method method : in.getDeclaredMethods()) {
            boolean isOfFace = in == PenStrike.class && isSeen(method);
            hold(isOfFace || !face.contains(method.getName()), method + " bears a name of the face");
            hold(method.getParameterCount() <= 7, method + " takes many parameters");
        }
    }

    private static void lookAtText(String text) {
        String code = text.replaceAll("//[^\n]*", "");
        for (String not : NOT_HERE) {
            Matcher found = Pattern.compile(not).matcher(code);
            hold(!found.find(), "in the text: " + not);
        }
        Matcher calls = Pattern.compile("\\b[A-Z][A-Za-z]*\\.[a-z][A-Za-z]*(?=\\()").matcher(code);
        while (calls.find()) {
            hold(LIBRARY.contains(calls.group()), "of the library: " + calls.group());
        }
        lookAtLengths(text.split("\n"));
    }

    private static void lookAtLengths(String[] rows) {
        int begin = 0;
        for (int i = 0; i < rows.length; i++) {
            if (rows[i].matches(" {4,8}[a-z].*\\) \\{")) {
                begin = i;
            } else if (rows[i].matches(" {4,8}\\}")) {
                hold(i - begin <= 60, "a long method at " + begin);
                begin = i;
            }
        }
    }
}
