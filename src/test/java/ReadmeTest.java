import java.io.IOException;
import java.lang.reflect.Method;
import java.lang.reflect.Modifier;
import java.nio.file.Files;
import java.nio.file.Path;
import java.util.regex.Matcher;
import java.util.regex.Pattern;

/** README.md shows calls with their answers and names every call of the face: both must hold. */
public final class ReadmeTest {
    private static final Pattern BLOCK = Pattern.compile("```java\n(.*?)```", Pattern.DOTALL);
    private static final Pattern CALL = Pattern.compile("plotter\\.(\\w+)\\((.*)\\); +// (-?\\d+)(:.*)?");
    private static final Pattern SIGN = Pattern.compile("'(.)'");

    public static void main(String[] args) throws IOException {
        String readme = Files.readString(Path.of("README.md"));
        Matcher block = BLOCK.matcher(readme);
        while (block.find()) {
            Script.run("README.md", scriptOf(block.group(1)));
        }
        for (Method method : PenStrike.class.getDeclaredMethods()) {
            if (Modifier.isPublic(method.getModifiers()) && !readme.contains("`" + method.getName() + "`")) {
                Script.tellWrong("README.md does not name " + method.getName());
            }
        }
        Script.close();
    }

    private static String scriptOf(String block) {
        StringBuilder script = new StringBuilder();
        for (String row : block.split("\n")) {
            Matcher call = CALL.matcher(row);
            if (call.matches()) {
                String arguments = SIGN.matcher(call.group(2)).replaceAll(sign -> "" + (int) sign.group(1).charAt(0));
                script.append(call.group(1) + " " + arguments.replace(',', ' ') + " -> " + call.group(3) + "\n");
            } else if (!row.equals("PenStrike plotter = new PenStrike();")) {
                Script.tellWrong("README.md shows what is no call with its answer: " + row);
            }
        }
        return script.toString();
    }
}
