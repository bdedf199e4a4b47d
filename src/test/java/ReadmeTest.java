import java.io.IOException;
import java.nio.file.Files;
import java.nio.file.Path;
import java.util.regex.Matcher;
import java.util.regex.Pattern;

/** The example in README.md: no call of it throws, and the last call of a line answers what the line says. */
public final class ReadmeTest {
    private static final Pattern CALL = Pattern.compile("k\\.(\\w+)\\(([^)]*)\\);");
    private static final Pattern ANSWER = Pattern.compile("// answers (-?\\d+)");

    /** So that a README whose example is no longer found does not pass for a right one. */
    private static final int FEWEST_ANSWERS = 10;

    public static void main(String[] args) throws IOException {
        Talk talk = new Talk("README.md", "");
        int answers = 0;
        for (String line : example().split("\n")) {
            String words = words(line);
            Matcher answer = ANSWER.matcher(line);
            if (answer.find()) {
                answers++;
                talk.answers(words, answer.group(1));
            } else {
                talk.does(words);
            }
        }
        talk.is("enough answers in the example", answers >= FEWEST_ANSWERS, true);
        Talk.end("ReadmeTest");
    }

    private static String example() throws IOException {
        String text = Files.readString(Path.of("README.md"));
        int start = text.indexOf("```java\n");
        return start < 0 ? "" : text.substring(start, text.indexOf("```", start + 3));
    }

    private static String words(String line) {
        StringBuilder words = new StringBuilder();
        Matcher call = CALL.matcher(line);
        while (call.find()) {
            words.append(word(call.group(1), call.group(2).replace(" ", ""))).append(' ');
        }
        return words.toString();
    }

    private static String word(String name, String arguments) {
        switch (name) {
            case "constant": return "c" + arguments;
            case "variable": return "v" + arguments;
            case "declare": return arguments.equals("true") ? "declare+" : "declare-";
            default: return arguments.isEmpty() ? name : name + "(" + arguments + ")";
        }
    }
}
