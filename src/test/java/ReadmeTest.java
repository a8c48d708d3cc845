import java.io.File;
import java.io.IOException;
import java.lang.reflect.Method;
import java.lang.reflect.Modifier;
import java.nio.file.Files;
import java.nio.file.Path;
import java.util.regex.Matcher;
import java.util.regex.Pattern;

/** Holds README.md against the class: each answer that its example tells, each call, each refusal, each test. */
public final class ReadmeTest {
    private static final Pattern TEXT = Pattern.compile("String text = \"(.*)\";");
    private static final Pattern CALL = Pattern.compile("x\\.(\\w+)\\(([-0-9, ]*)\\);\\s+// (-?\\d+)\\b.*");
    private static final Check C = new Check();

    public static void main(String[] args) throws IOException {
        String readme = Files.readString(Path.of("README.md"));
        int begin = readme.indexOf("```java\n");
        int end = readme.indexOf("\n```\n", begin);
        C.due("an example", begin >= 0 && end > begin ? 1 : 0, 1);
        exampleHolds(readme.substring(begin + 8, end).split("\n"));
        callsAreNamed(readme);
        refusalsAreNamed(readme);
        testsAreNamed(readme);
        C.end();
    }

    private static void exampleHolds(String[] lines) {
        TideInches x = new TideInches();
        String text = "";
        int calls = 0;
        for (String line : lines) {
            Matcher told = TEXT.matcher(line);
            Matcher call = CALL.matcher(line);
            if (told.matches()) {
                text = told.group(1);
            } else if (line.startsWith("for ")) {
                Check.tell(x, text);
            } else if (call.matches()) {
                C.due("README: " + call.group(1), Pair.answer(x, call.group(1), numbers(call.group(2))),
                    Integer.parseInt(call.group(3)));
                calls++;
            } else {
                C.due("README, a line that is no call: " + line, line.contains("new TideInches()") ? 1 : 0, 1);
            }
        }
        C.due("calls in the example", calls > 0 ? 1 : 0, 1);
    }

    private static int[] numbers(String told) {
        String[] parts = told.isEmpty() ? new String[0] : told.split(", ");
        int[] numbers = new int[parts.length];
        for (int i = 0; i < parts.length; i++) {
            numbers[i] = Integer.parseInt(parts[i]);
        }
        return numbers;
    }

    private static void callsAreNamed(String readme) {
        for (Method call : TideInches.class.getDeclaredMethods()) {
            if (Modifier.isPublic(call.getModifiers())) {
                int many = call.getParameterCount();
                String numbers = many == 0 ? "" : "\\w+" + ", \\w+".repeat(many - 1);
                String due = "`" + call.getName() + "\\(" + numbers + "\\)`";
                C.due("README names " + call.getName(), Pattern.compile(due).matcher(readme).find() ? 1 : 0, 1);
            }
        }
    }

    private static void refusalsAreNamed(String readme) {
        String[] due = {TideInches.NONE + " `NONE`", TideInches.BAD + " `BAD`", TideInches.STATE + " `STATE`",
            TideInches.FULL + " `FULL`", "-1000011 | NULL", "-1000012 | PLACE", "-1000013 | KIND", "-1000014 | SIZE",
            "-1000015 | STORE", "-1000100 "};
        for (String refusal : due) {
            C.due("README names " + refusal, readme.contains(refusal) ? 1 : 0, 1);
        }
    }

    private static void testsAreNamed(String readme) {
        File[] files = new File("src/test/java").listFiles();
        C.due("tests are found", files != null && files.length > 1 ? 1 : 0, 1);
        for (File file : files) {
            String name = file.getName().replace(".java", "");
            if (name.endsWith("Test")) {
                C.due("README names " + name, readme.contains("| `" + name + "` |") ? 1 : 0, 1);
            }
        }
    }
}
