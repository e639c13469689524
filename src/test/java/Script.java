import java.lang.reflect.InvocationTargetException;
import java.lang.reflect.Method;
import java.util.Arrays;
import java.util.HashMap;
import java.util.Map;
import java.util.Set;

/**
 * Plays scripts of calls on new objects. A row is "call arguments -> answer"; an answer is a
 * number, the name of an error, or "a/b" for the bits of that float. "text ..." clears the text
 * and types the rest of the row; "again n call arguments" makes a call n times, and none of
 * them may answer an error. What stands behind "#" is left out.
 *
 * Each row is also held against what goes for all calls: an error changes nothing, nor does a
 * question, and a change that is taken back leaves all as it was before it.
 */
final class Script {
    private static final Map<String, Integer> ERRORS = Map.of(
        "INVALID", -1000001, "IMPOSSIBLE", -1000002, "LIMIT", -1000003, "MISSING", -1000004);
    private static final Set<String> CHANGES = Set.of("set", "pen", "line", "leave", "refill", "take",
        "home", "draw", "erase", "waits", "clean", "play");
    private static final Set<String> OTHER_DEEDS = Set.of("undo", "type", "clearText");
    private static final Map<String, Method> METHODS = new HashMap<>();

    private static int rows = 0;
    private static int wrong = 0;

    static {
        for (Method method : PenStrike.class.getDeclaredMethods()) {
            if (java.lang.reflect.Modifier.isPublic(method.getModifiers())) {
                METHODS.put(method.getName(), method);
            }
        }
    }

    private Script() {
    }

    static void run(String title, String script) {
        PenStrike plotter = new PenStrike();
        for (String whole : script.split("\n")) {
            String row = whole.replaceAll("#.*", "").trim();
            if (row.isEmpty()) {
                continue;
            }
            rows++;
            try {
                play(plotter, title, row);
            } catch (InvocationTargetException e) {
                tell(title, row, "it threw " + e.getCause());
            } catch (ReflectiveOperationException e) {
                throw new IllegalStateException(e);
            }
        }
    }

    static void close() {
        System.out.println(rows + " rows, " + wrong + " wrong");
        if (wrong != 0 || rows == 0) {
            System.exit(1);
        }
    }

    private static void play(PenStrike plotter, String title, String row) throws ReflectiveOperationException {
        if (row.startsWith("text")) {
            retype(plotter, row.substring(4).trim());
            return;
        }
        String[] words = row.split(" +");
        if (words[0].equals("again")) {
            for (int i = 0; i < Integer.parseInt(words[1]); i++) {
                int got = call(plotter, Arrays.copyOfRange(words, 2, words.length));
                if (isError(got)) {
                    tell(title, row, "answered " + got + " at " + i);
                }
            }
            return;
        }
        int arrow = Arrays.asList(words).indexOf("->");
        String[] call = Arrays.copyOfRange(words, 0, arrow);
        int[] before = Answers.of(plotter);
        int statesBefore = plotter.count(11);
        int got = call(plotter, call);
        int want = answer(words[arrow + 1]);
        if (got != want) {
            tell(title, row, "answered " + got);
        }
        lookAtTraces(plotter, title, row, call[0], got, before, statesBefore);
    }

    private static void retype(PenStrike plotter, String text) {
        plotter.clearText();
        for (char sign : text.toCharArray()) {
            if (isError(plotter.type(sign))) {
                throw new IllegalStateException("cannot be typed: " + text);
            }
        }
    }

    private static void lookAtTraces(PenStrike plotter, String title, String row, String name, int got,
            int[] before, int statesBefore) {
        boolean isDeed = CHANGES.contains(name) || OTHER_DEEDS.contains(name);
        if (isError(got) || !isDeed) {
            if (!Arrays.equals(before, Answers.of(plotter)) || plotter.count(11) != statesBefore) {
                tell(title, row, "changed something");
            }
        }
        if (CHANGES.contains(name) && !isError(got)) {
            if (plotter.count(11) != Math.min(4, statesBefore + 1)) {
                tell(title, row, "left " + plotter.count(11) + " states");
            }
        }
    }

    private static boolean isError(int answer) {
        return ERRORS.containsValue(answer);
    }

    private static int answer(String word) {
        if (ERRORS.containsKey(word)) {
            return ERRORS.get(word);
        }
        int slash = word.indexOf('/');
        if (slash > 0) {
            float above = Float.parseFloat(word.substring(0, slash));
            return Float.floatToIntBits(above / Float.parseFloat(word.substring(slash + 1)));
        }
        return Integer.parseInt(word);
    }

    static int call(PenStrike plotter, String... call) throws ReflectiveOperationException {
        Method method = METHODS.get(call[0]);
        Object[] arguments = new Object[call.length - 1];
        for (int i = 1; i < call.length; i++) {
            arguments[i - 1] = Integer.valueOf(call[i]);
        }
        return (Integer) method.invoke(plotter, arguments);
    }

    private static void tell(String title, String row, String what) {
        wrong++;
        System.out.println(title + ": " + row + ": " + what);
    }
}
