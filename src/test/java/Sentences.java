import java.io.IOException;
import java.nio.file.Files;
import java.nio.file.Path;
import java.util.ArrayList;
import java.util.List;

/**
 * A section of the document, whose sentences are held by a script each. A sentence that is held
 * must stand in the section word by word, and in the end each of the section's sentences must
 * have been held, so that none is forgotten and none is made up.
 */
final class Sentences {
    private static final Path DOC = Path.of("../shared/DOC.md");

    private final String heading;
    private final String whole;
    private final List<String> open = new ArrayList<>();

    Sentences(String heading) {
        this.heading = heading;
        StringBuilder text = new StringBuilder();
        for (String line : linesOf(heading)) {
            addSentences(line);
            text.append(line).append(' ');
        }
        whole = text.toString();
    }

    void hold(String sentence, String script) {
        if (!whole.contains(sentence)) {
            Script.tellWrong(heading + " does not say: " + sentence);
        }
        open.removeIf(sentence::contains);
        Script.run(heading + ", \"" + sentence + "\"", script);
    }

    void close() {
        for (String sentence : open) {
            Script.tellWrong(heading + ": no test holds: " + sentence);
        }
    }

    private static List<String> linesOf(String heading) {
        List<String> lines = new ArrayList<>();
        boolean isIn = false;
        for (String line : readDoc()) {
            if (line.startsWith("#")) {
                String title = line.replaceFirst("^#+ ", "");
                isIn = title.equals(heading) || title.startsWith(heading + ":");
            } else if (line.startsWith("The constants:")) {
                isIn = false;
            } else if (isIn && !line.isEmpty()) {
                lines.add(line);
            }
        }
        return lines;
    }

    private static List<String> readDoc() {
        try {
            return Files.readAllLines(DOC);
        } catch (IOException e) {
            throw new IllegalStateException(e);
        }
    }

    private void addSentences(String line) {
        boolean isList = line.startsWith("- ") || (line.startsWith("Returns ") && heading.startsWith("Promise"));
        String text = line.replaceFirst("^- ", "").replaceFirst("^`[A-Za-z ]+\\([^`]*`: ", "");
        for (String sentence : text.split(isList ? "; " : "(?<=\\.) (?=[A-Z(])|, (?=\\d )")) {
            open.add(sentence.replaceFirst("\\.$", ""));
        }
    }
}
