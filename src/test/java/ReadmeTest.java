import java.io.IOException;
import java.nio.file.Files;
import java.nio.file.Path;
import java.util.Set;
import java.util.TreeSet;
import java.util.regex.Matcher;
import java.util.regex.Pattern;

/**
 * What README.md shows of the class's use: each call in its java blocks answers as the line says, and a
 * bits block is the text of the java block behind it. A line of another form is wrong too, so that
 * nothing is shown that is not tested.
 */
public final class ReadmeTest {
    private static final String NEW_OBJECT = "TermMachine x = new TermMachine();";
    private static final Pattern BLOCK = Pattern.compile("(?ms)^```(\\w+)\\n(.*?)^```$");
    // A call, perhaps some times over, and behind it its (last) answer and what that means.
    private static final Pattern CALL = Pattern.compile(
        "(?:for \\(int i = 0; i < (\\d+); i\\+\\+\\) )?x\\.(\\w+)\\(([^)]*)\\);"
        + " +// (-?\\d+|NONE|true|IllegalArgumentException|IllegalStateException)(?:: .+)?");
    private static final Set<String> METHODS = Set.of("text", "read", "begin", "run", "told", "about");

    private static final Set<String> answered = new TreeSet<>();
    private static final Set<String> refused = new TreeSet<>();

    public static void main(String[] args) throws IOException {
        String readme = Files.readString(Path.of("README.md"));
        Matcher block = BLOCK.matcher(readme);
        String bits = "";
        while (block.find()) {
            switch (block.group(1)) {
                case "bits":
                    Check.due("bits without a java block", bits, "");
                    bits = bitsOf(block.group(2));
                    break;
                case "java":
                    example(block.group(2).split("\n"), bits);
                    bits = "";
                    break;
                default:
                    Check.due("kind of block", block.group(1), "sh");
                    break;
            }
        }
        Check.due("bits without a java block", bits, "");
        Check.due("methods shown", answered.toString(), new TreeSet<>(METHODS).toString());
        Check.due("refusals shown", refused.toString(), "[begin IllegalArgumentException, "
            + "begin IllegalStateException, run IllegalArgumentException, run IllegalStateException, "
            + "text IllegalArgumentException, text IllegalStateException]");
        tests(readme);
        Check.close("ReadmeTest");
    }

    /** The groups of 0 and 1 that begin each line. */
    private static String bitsOf(String block) {
        StringBuilder bits = new StringBuilder();
        for (String line : block.split("\n")) {
            Matcher groups = Pattern.compile("^([01]+(?: [01]+)*) {2,}\\S.*$").matcher(line);
            Check.due("a line of bits: " + line, groups.matches() ? 1 : 0, 1);
            bits.append(groups.matches() ? groups.group(1).replace(" ", "") : "");
        }
        return bits.toString();
    }

    private static void example(String[] lines, String bits) {
        Check.due("first line of a java block", lines[0], NEW_OBJECT);
        TermMachine x = new TermMachine();
        StringBuilder text = new StringBuilder();
        for (int i = 1; i < lines.length; i++) {
            Matcher call = CALL.matcher(lines[i]);
            if (!call.matches()) {
                Check.due("a line with a call: " + lines[i], 0, 1);
                continue;
            }
            int times = call.group(1) == null ? 1 : Integer.parseInt(call.group(1));
            int[] numbers = numbers(call.group(3));
            String got = "";
            for (int time = 0; time < times; time++) {
                got = answer(x, call.group(2), numbers);
            }
            if (call.group(2).equals("text")) {
                text.append(bitsOf(numbers[0], numbers[1]));
            }
            Check.due(lines[i], got, call.group(4).replace("NONE", "-1"));
            note(call.group(2), got);
        }
        if (!bits.isEmpty()) {
            Check.due("the text of the bits", text.toString(), bits);
        }
    }

    private static void note(String method, String got) {
        if (got.startsWith("Illegal")) {
            refused.add(method + " " + got);
        } else {
            answered.add(method);
        }
    }

    private static int[] numbers(String written) {
        if (written.isEmpty()) {
            return new int[0];
        }
        String[] parts = written.split(", ");
        int[] numbers = new int[parts.length];
        for (int i = 0; i < parts.length; i++) {
            numbers[i] = parts[i].startsWith("0x")
                ? Integer.parseUnsignedInt(parts[i].substring(2), 16)
                : Integer.parseInt(parts[i]);
        }
        return numbers;
    }

    private static String bitsOf(int four, int n) {
        StringBuilder bits = new StringBuilder();
        for (int bit = 8 * n - 1; bit >= 0; bit--) {
            bits.append(four >> bit & 1);
        }
        return bits.toString();
    }

    private static String answer(TermMachine x, String method, int[] numbers) {
        try {
            switch (method + numbers.length) {
                case "text2":
                    return Integer.toString(x.text(numbers[0], numbers[1]));
                case "read0":
                    return Integer.toString(x.read());
                case "begin1":
                    return Boolean.toString(x.begin(numbers[0]));
                case "run1":
                    return Integer.toString(x.run(numbers[0]));
                case "told1":
                    return Integer.toString(x.told(numbers[0]));
                case "about1":
                    return Integer.toString(x.about(numbers[0]));
                default:
                    return "no such method";
            }
        } catch (RuntimeException e) {
            return e.getClass().getSimpleName();
        }
    }

    /** Each test of the project stands in the table of tests, and nothing else does. */
    private static void tests(String readme) throws IOException {
        Set<String> told = new TreeSet<>();
        Matcher name = Pattern.compile("`(\\w+Test)`").matcher(readme);
        while (name.find()) {
            told.add(name.group(1));
        }
        Set<String> there = new TreeSet<>();
        try (var files = Files.list(Path.of("src/test/java"))) {
            files.map(file -> file.getFileName().toString())
                .filter(file -> file.endsWith("Test.java"))
                .forEach(file -> there.add(file.replace(".java", "")));
        }
        Check.due("tests told", told.toString(), there.toString());
    }
}
