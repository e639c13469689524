import java.lang.reflect.InvocationTargetException;
import java.lang.reflect.Method;
import java.lang.reflect.Modifier;
import java.util.ArrayList;
import java.util.Arrays;
import java.util.HashMap;
import java.util.List;
import java.util.Map;
import java.util.Set;

/**
 * Plays scripts of calls on new objects. A row is "call arguments -> answer"; an answer is a
 * number, the name of an error, or "a/b" for the bits of that float. There are rows that stand
 * for several calls, none of which may answer an error: "text ..." clears the text and types the
 * rest of the row, "again n call arguments" makes a call n times, "till n" waits till that time
 * (and clears the text). "outside a b call arguments" puts numbers below a and above b in the
 * place of the argument "*": each of these calls must answer INVALID. What stands behind "#" is
 * left out.
 *
 * A script is played twice. First its calls are made alone, on one object. Then each row is made
 * on an object on which just the calls that do something went ahead of it, and what it left
 * behind is looked at, the states of the history too: an error changes nothing, nor does a
 * question, and a change that is taken back leaves all as it was before it.
 */
final class Script {
    private static final Map<String, Integer> ERRORS = Map.of(
        "INVALID", -1000001, "IMPOSSIBLE", -1000002, "LIMIT", -1000003, "MISSING", -1000004);
    private static final Set<String> CHANGES = Set.of("set", "pen", "line", "leave", "refill", "take",
        "home", "draw", "erase", "waits", "clean", "play");
    private static final Set<String> OTHER_DEEDS = Set.of("undo", "type", "clearText");
    private static final int MOST_STATES = 4;
    private static final String[] CLEAR_TEXT = {"clearText"};
    private static final String[] UNDO = {"undo"};
    private static final Map<String, Method> METHODS = new HashMap<>();

    private static int rows = 0;
    private static int wrong = 0;

    static {
        for (Method method : PenStrike.class.getDeclaredMethods()) {
            if (Modifier.isPublic(method.getModifiers())) {
                METHODS.put(method.getName(), method);
            }
        }
    }

    /** A call of a row; due is null where any answer but an error will do. */
    private record Step(String row, String[] call, Integer due) {
        boolean isChange() {
            return CHANGES.contains(call[0]) && !isError(due);
        }

        boolean isDeed() {
            return isChange() || (OTHER_DEEDS.contains(call[0]) && !isError(due));
        }
    }

    private final String title;
    private final List<Step> steps = new ArrayList<>();

    private Script(String title) {
        this.title = title;
    }

    static void run(String title, String script) {
        Script played = new Script(title);
        try {
            played.playBare(script);
            played.playTraced();
        } catch (InvocationTargetException e) {
            played.tell(script, "it threw " + e.getCause());
        } catch (ReflectiveOperationException e) {
            throw new IllegalStateException(e);
        }
    }

    static void close() {
        System.out.println(rows + " rows, " + wrong + " wrong");
        if (wrong != 0 || rows == 0) {
            System.exit(1);
        }
    }

    static void tellWrong(String what) {
        wrong++;
        System.out.println(what);
    }

    private void tell(String row, String what) {
        tellWrong(title + ": " + row + ": " + what);
    }

    // ---- rows and their calls

    private void playBare(String script) throws ReflectiveOperationException {
        PenStrike plotter = new PenStrike();
        for (String whole : script.split("\n")) {
            String row = whole.replaceAll("#.*", "").trim();
            if (row.isEmpty()) {
                continue;
            }
            rows++;
            for (Step step : stepsOf(row, plotter.count(4))) {
                int got = call(plotter, step.call());
                if (step.due() == null ? isError(got) : got != step.due()) {
                    tell(row, String.join(" ", step.call()) + " answered " + got);
                }
                steps.add(step);
            }
        }
    }

    private static List<Step> stepsOf(String row, int time) {
        List<Step> made = new ArrayList<>();
        String[] words = row.split(" +");
        int number = words.length > 1 && words[1].matches("\\d+") ? Integer.parseInt(words[1]) : 0;
        switch (words[0]) {
            case "text":
                addTyping(made, row, row.substring(4).trim());
                break;
            case "again":
                addAgain(made, row, number, Arrays.copyOfRange(words, 2, words.length));
                break;
            case "till":
                addWaiting(made, row, number - time);
                break;
            case "outside":
                addOutside(made, row, number, Integer.parseInt(words[2]), Arrays.copyOfRange(words, 3, words.length));
                break;
            default:
                int arrow = Arrays.asList(words).indexOf("->");
                made.add(new Step(row, Arrays.copyOfRange(words, 0, arrow), answer(words[arrow + 1])));
        }
        return made;
    }

    private static void addAgain(List<Step> made, String row, int times, String... call) {
        for (int i = 0; i < times; i++) {
            made.add(new Step(row, call, null));
        }
    }

    private static void addTyping(List<Step> made, String row, String text) {
        addAgain(made, row, 1, CLEAR_TEXT);
        for (char sign : text.toCharArray()) {
            addAgain(made, row, 1, "type", "" + (int) sign);
        }
    }

    // A text waits longer than one call of waits, so that few calls are needed.
    private static void addWaiting(List<Step> made, String row, int ticks) {
        addTyping(made, row, "w200;".repeat(12));
        addAgain(made, row, ticks / 2400, "play");
        addAgain(made, row, ticks % 2400 / 200, "waits", "200");
        if (ticks % 200 > 0) {
            addAgain(made, row, 1, "waits", "" + ticks % 200);
        }
        addAgain(made, row, 1, CLEAR_TEXT);
    }

    private static void addOutside(List<Step> made, String row, int least, int greatest, String[] call) {
        for (int value : new int[] {least - 1, greatest + 1, Integer.MIN_VALUE, Integer.MAX_VALUE}) {
            String[] filled = call.clone();
            filled[Arrays.asList(call).indexOf("*")] = "" + value;
            made.add(new Step(row, filled, ERRORS.get("INVALID")));
        }
    }

    private static boolean isError(Integer answer) {
        return answer != null && ERRORS.containsValue(answer);
    }

    private static int answer(String word) {
        if (ERRORS.containsKey(word)) {
            return ERRORS.get(word);
        }
        int slash = word.indexOf('/');
        if (slash > 0) {
            float above = Float.parseFloat(word.substring(0, slash));
            return Float.floatToIntBits(above / Float.parseFloat(word.substring(slash + 1)));
        }
        return Integer.parseInt(word);
    }

    private static int call(PenStrike plotter, String... call) throws ReflectiveOperationException {
        Method method = METHODS.get(call[0]);
        Object[] arguments = new Object[call.length - 1];
        for (int i = 1; i < call.length; i++) {
            arguments[i - 1] = Integer.valueOf(call[i]);
        }
        return (Integer) method.invoke(plotter, arguments);
    }

    // ---- what a call leaves behind

    private void playTraced() throws ReflectiveOperationException {
        List<String[]> deeds = new ArrayList<>();
        for (Step step : steps) {
            if (step.due() != null) {
                lookAtTraces(step, deeds);
            }
            if (step.isDeed()) {
                deeds.add(step.call());
            }
        }
    }

    private static PenStrike replay(List<String[]> deeds, String[]... more) throws ReflectiveOperationException {
        PenStrike plotter = new PenStrike();
        for (String[] deed : deeds) {
            call(plotter, deed);
        }
        for (String[] deed : more) {
            call(plotter, deed);
        }
        return plotter;
    }

    private void lookAtTraces(Step step, List<String[]> deeds) throws ReflectiveOperationException {
        List<int[]> before = Answers.deepOf(replay(deeds));
        int most = Math.min(MOST_STATES, before.size());
        if (call(replay(deeds), step.call()) != step.due()) {
            tell(step.row(), "not the same answer with the deeds alone ahead");
        }
        if (!step.isDeed()) {
            hold(step, replay(deeds, step.call()), before);
        } else if (step.isChange()) {
            if (replay(deeds, step.call()).count(11) != most) {
                tell(step.row(), "a wrong number of states");
            }
            hold(step, replay(deeds, step.call(), UNDO), before.subList(0, most));
        } else if (step.call()[0].equals("undo")) {
            hold(step, replay(deeds, step.call()), before.subList(1, before.size()));
        } else {
            hold(step, replay(deeds, step.call(), CLEAR_TEXT), Answers.deepOf(replay(deeds, CLEAR_TEXT)));
        }
    }

    private void hold(Step step, PenStrike plotter, List<int[]> want) {
        if (!Arrays.deepEquals(Answers.deepOf(plotter).toArray(), want.toArray())) {
            tell(step.row(), "left other things behind than are due");
        }
    }
}
