import java.io.IOException;
import java.lang.reflect.Method;
import java.nio.file.Files;
import java.nio.file.Path;
import java.util.ArrayList;
import java.util.List;
import java.util.Set;
import java.util.TreeSet;
import java.util.regex.Matcher;
import java.util.regex.Pattern;

/**
 * Prints a test of the calls that README.md shows: all its java blocks, one behind the other. A line there is
 * empty, makes an object, or is one call with its answer behind it: "call; // 5", "int n = call; // 5" or
 * "call; // throws SomeException", and a text after a colon. A line that is none of these, or a method that the
 * page does not show, ends the writer with 1, so that no call stands there untested.
 */
public final class ReadmeTestWriter {
    private static final String BLOCK = "```java";
    private static final String BLOCK_END = "```";
    private static final Pattern MAKES = Pattern.compile("ChalkSlate \\w+ = new ChalkSlate\\(\\);");
    private static final Pattern CALL = Pattern.compile(
            "((?:int|long|double) (\\w+) = )?((\\w+)\\.(\\w+)\\([^()]*\\)); +// (?:throws (\\w+)|(-?[0-9.]+))(?:: .+)?");

    private final Set<String> shown = new TreeSet<>();
    private final List<String> faults = new ArrayList<>();

    public static void main(String[] args) throws IOException {
        ReadmeTestWriter writer = new ReadmeTestWriter();
        String test = writer.testOf(Files.readAllLines(Path.of(args[0])));
        writer.lookForMethodsNotShown();
        for (String fault : writer.faults) {
            System.err.println(args[0] + ": " + fault);
        }
        if (!writer.faults.isEmpty()) {
            System.exit(1);
        }
        System.out.print(test);
    }

    private String testOf(List<String> page) {
        StringBuilder test = new StringBuilder();
        test.append("public final class ReadmeTest extends Checks {\n");
        test.append("    public static void main(String[] args) {\n");
        boolean isInBlock = false;
        for (int i = 0; i < page.size(); i++) {
            String line = page.get(i).strip();
            if (line.equals(isInBlock ? BLOCK_END : BLOCK)) {
                isInBlock = !isInBlock;
            } else if (isInBlock && !line.isEmpty()) {
                test.append("        says(\"README.md, line ").append(i + 1).append("\", \"How to use it\");\n");
                test.append("        ").append(checkOf(line, i + 1)).append('\n');
            }
        }
        if (isInBlock) {
            faults.add("the last block has no end");
        }
        test.append("        endWith(\"the calls of README.md answer as it says\");\n");
        return test.append("    }\n}\n").toString();
    }

    private String checkOf(String line, int number) {
        if (MAKES.matcher(line).matches()) {
            return line;
        }
        Matcher parts = CALL.matcher(line);
        if (!parts.matches()) {
            faults.add("line " + number + " is no call with its answer: " + line);
            return "";
        }
        String declared = parts.group(1) == null ? "" : parts.group(1);
        String call = parts.group(3);
        String thrown = parts.group(6);
        String answer = parts.group(7);
        shown.add(parts.group(5));
        if (thrown != null) {
            return "refused(" + parts.group(4) + ", \"" + thrown + "\", \"" + call + "\", () -> { " + declared + call
                    + "; });";
        }
        String check = answer.contains(".") ? "dueDouble" : "due";
        String got = declared.isEmpty() ? call : parts.group(2);
        return (declared.isEmpty() ? "" : declared + call + "; ") + check + "(\"" + call + "\", " + got + ", " + answer
                + (check.equals("due") ? "L" : "") + ");";
    }

    private void lookForMethodsNotShown() {
        for (Method method : ChalkSlate.class.getMethods()) {
            if (method.getDeclaringClass() == ChalkSlate.class && !shown.contains(method.getName())) {
                faults.add("no call of " + method.getName() + " with its answer");
            }
        }
    }
}
