import java.io.IOException;
import java.nio.file.Files;
import java.nio.file.Path;
import java.util.regex.Matcher;
import java.util.regex.Pattern;

/** What README.md tells of the class: the calls of the document's face, and the answers of its example. */
public final class ReadmeTest {
    private static final int CALLS_OF_THE_FACE = 20;
    private static final Pattern OF_THE_FACE = Pattern.compile("public (\\w[^;{=]*\\));");
    private static final Pattern OF_THE_EXAMPLE = Pattern.compile("rolls\\.(\\w+)\\((.*?)\\);\\s*// (-?\\w+):.*");
    private static final Check check = new Check();

    public static void main(String[] args) throws IOException {
        String readme = Files.readString(Path.of("README.md"));
        face(readme, Files.readString(Path.of("../shared/DOC.md")));
        example(readme);
        tests(readme);
        check.end();
    }

    private static void face(String readme, String document) {
        check.begin("the face");
        int found = 0;
        for (Matcher call = OF_THE_FACE.matcher(document); call.find(); found++) {
            check.due(call.group(1) + " stands in README.md", readme.contains("`" + call.group(1) + "`"), true);
        }
        check.due("calls of the document's face", found, CALLS_OF_THE_FACE);
    }

    private static void example(String readme) {
        check.begin("the example");
        ManorRolls rolls = new ManorRolls();
        int start = readme.indexOf("ManorRolls rolls = new ManorRolls();");
        check.due("there is one", start >= 0, true);
        String block = readme.substring(Math.max(start, 0), readme.indexOf("```", start));
        for (String line : block.split("\n")) {
            if (line.startsWith("rolls.")) {
                Matcher told = OF_THE_EXAMPLE.matcher(line);
                check.due("the answer is told: " + line, told.matches(), true);
                if (told.matches()) {
                    Call call = new Call(told.group(1), numbers(told.group(2)));
                    check.due(call, call.on(rolls), number(told.group(3)));
                }
            }
        }
    }

    /** Each test of the project is told. */
    private static void tests(String readme) throws IOException {
        check.begin("the tests");
        try (var files = Files.newDirectoryStream(Path.of("src/test/java"))) {
            for (Path file : files) {
                check.due(file + " stands in README.md", readme.contains(file.getFileName().toString()), true);
            }
        }
    }

    private static int[] numbers(String list) {
        if (list.isEmpty()) {
            return new int[0];
        }
        String[] texts = list.split(", ");
        int[] numbers = new int[texts.length];
        for (int i = 0; i < numbers.length; i++) {
            numbers[i] = number(texts[i]);
        }
        return numbers;
    }

    private static int number(String text) {
        switch (text) {
            case "true": return 1;
            case "false": return 0;
            case "ManorRolls.NONE": return ManorRolls.NONE;
            default: return Integer.parseInt(text);
        }
    }
}
