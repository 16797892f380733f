import java.io.IOException;
import java.nio.file.Files;
import java.nio.file.Path;
import java.util.regex.Matcher;
import java.util.regex.Pattern;

/** What README.md says of calls and their answers: run in the project's folder. */
public final class ReadmeTest {
    private static final String NEW = "MaynotBeSeen x = new MaynotBeSeen();";
    private static final Pattern BLOCK = Pattern.compile("```java\n(.*?)```", Pattern.DOTALL);
    private static final Pattern LETTERS = Pattern.compile("for \\(char c : \"([^\"]+)\"\\.toCharArray\\(\\)\\) \\{");
    private static final Pattern IN_LOOP = Pattern.compile("x\\.letter\\(c\\);(?: +//.*)?|}");
    private static final Pattern CALL = Pattern.compile("x\\.(\\w+\\([-\\d, ]*\\)); +// (-?\\d+)(?:: .*)?");
    private static final Pattern RUN = Pattern.compile("SCRIPT\\.run\\(\"([^\"]*)\", \"([^\"]*)\"\\)");
    private static final int LEAST_CALLS = 40;

    private static final Due DUE = new Due();
    private static int calls = 0;

    public static void main(String[] args) throws IOException {
        String readme = Files.readString(Path.of("README.md"));
        Matcher block = BLOCK.matcher(readme);
        while (block.find()) {
            follow(block.group(1));
        }
        DUE.is("calls that README.md answers, " + LEAST_CALLS + " at least", Math.min(calls, LEAST_CALLS), LEAST_CALLS);
        Matcher run = RUN.matcher(readme);
        DUE.is("README.md shows a run", run.find() ? 1 : 0, 1);
        new Script(DUE).run(run.group(1), run.group(2));
        everyTestIsNamed(readme);
        DUE.end();
    }

    private static void follow(String block) {
        MaynotBeSeen x = null;
        for (String line : block.split("\n")) {
            String told = line.trim();
            Matcher letters = LETTERS.matcher(told);
            Matcher call = CALL.matcher(told);
            if (told.equals(NEW)) {
                x = new MaynotBeSeen();
            } else if (letters.matches()) {
                letters.group(1).chars().forEach(x::letter);
            } else if (call.matches()) {
                calls++;
                DUE.is("README.md: " + told, Script.call(x, call.group(1).replace(" ", "")),
                        Integer.parseInt(call.group(2)));
            } else {
                DUE.is("README.md: a line that is followed: " + told, IN_LOOP.matcher(told).matches() ? 1 : 0, 1);
            }
        }
    }

    private static void everyTestIsNamed(String readme) throws IOException {
        try (var files = Files.newDirectoryStream(Path.of("src/test/java"), "*Test.java")) {
            for (Path file : files) {
                String name = file.getFileName().toString().replace(".java", "");
                DUE.is("README.md names " + name, readme.contains("`" + name + "`") ? 1 : 0, 1);
            }
        }
    }
}
