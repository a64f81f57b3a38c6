import java.io.IOException;
import java.nio.file.Files;
import java.nio.file.Path;
import java.util.ArrayList;
import java.util.List;
import java.util.Map;
import java.util.TreeMap;
import java.util.regex.Matcher;
import java.util.regex.Pattern;

/** The rules of LANGUAGE.md that can be seen in the text of the program (its path is the argument). */
public final class LanguageTest {
    private static final String[] FORBIDDEN = {
        "\\bimport\\b", "\\bpackage\\b", "->", "::", "\\btry\\b", "\\bcatch\\b", "\\bfinally\\b",
        "\\bsynchronized\\b", "\\bassert\\b", "\\bprotected\\b", "\\bSystem\\b", "\\bThread\\b",
        "\\bnull\\b", "\\bstatic \\{", "Exact\\(", "\\bnative\\b", "\\bvolatile\\b",
    };
    private static final int METHOD_MOST = 60;
    private static final int PARAMETERS_MOST = 7;
    private static final int DEPTH_MOST = 8;
    private static final Pattern HEAD = Pattern.compile(
        "(?m)^( {4}| {8})(?:[a-z]+ )*[\\w\\[\\]]+ (\\w+)\\(([^)\\n]*)\\)[^;\\n]*\\{$");

    public static void main(String[] args) throws IOException {
        String path = args.length > 0 ? args[0] : "src/main/java/TermMachine.java";
        String source = bare(Files.readString(Path.of(path)));
        for (String word : FORBIDDEN) {
            Check.due("places of " + word, many(word, source), 0);
        }
        names(source);
        objects(source);
        statics(source);
        lengths(source);
        List<Method> methods = methods(source);
        Check.due("methods found", methods.size() > 50 ? 1 : 0, 1);
        indices(methods);
        divisors(methods);
        loops(methods);
        parameters(methods);
        depths(methods);
        Check.due("classes inside, at most 12", many("\\bclass\\b", source) <= 12 ? 1 : 0, 1);
        Check.close("LanguageTest");
    }

    /** Without comments and written texts. */
    private static String bare(String source) {
        return source.replaceAll("(?s)/\\*.*?\\*/", "").replaceAll("//[^\\n]*", "")
            .replaceAll("\"[^\"\\n]*\"", "\"\"");
    }

    private static int many(String word, CharSequence source) {
        Matcher matcher = Pattern.compile(word).matcher(source);
        int count = 0;
        while (matcher.find()) {
            count++;
        }
        return count;
    }

    // Rule 1: no other method bears the name of one of the face.
    private static void names(String source) {
        String[] face = {"text", "read", "begin", "run", "told", "about"};
        for (String name : face) {
            Check.due("methods called " + name, many("\\b\\w+ " + name + "\\(\\w", source)
                + many("\\b\\w+ " + name + "\\(\\) \\{", source), 1);
        }
    }

    // All rows are made with the object: a call makes nothing but exceptions.
    private static void objects(String source) {
        int all = many("\\bnew\\b", source);
        int fields = many("(?m)^ +private (final )?[\\w\\[\\]]+ \\w+ = new [^;]*;", source);
        Check.due("new elsewhere", all - fields - many("throw new Illegal\\w+\\(\"\"\\)", source), 0);
    }

    private static void statics(String source) {
        int fields = many("(?m)^ +(private|public) static [^(\\n]*=", source);
        Check.due("static fields that are final", many("(?m)^ +(private|public) static final [^(\\n]*=",
            source), fields);
    }

    private static void lengths(String source) {
        int start = 0;
        String[] lines = source.split("\n");
        for (int i = 0; i < lines.length; i++) {
            boolean head = lines[i].endsWith(") {") || lines[i].contains("Exception {");
            if (head && lines[i].matches(" {4,8}[a-z].*")) {
                start = i;
            }
            if (lines[i].matches(" {4,8}\\}") && start > 0) {
                Check.due("lines of the method at " + lines[start].trim(),
                    i - start < METHOD_MOST ? 1 : 0, 1);
                start = 0;
            }
        }
    }

    private record Method(String name, String parameters, String body) {
    }

    private static List<Method> methods(String source) {
        List<Method> methods = new ArrayList<>();
        Matcher matcher = HEAD.matcher(source);
        while (matcher.find()) {
            int end = source.indexOf("\n" + matcher.group(1) + "}\n", matcher.end());
            methods.add(new Method(matcher.group(2), matcher.group(3),
                source.substring(matcher.end(), end)));
        }
        return methods;
    }

    // Rule 7: the method that uses an index looks at it, unless it is a written number.
    private static void indices(List<Method> methods) {
        int found = 0;
        for (Method method : methods) {
            Matcher matcher = Pattern.compile("\\w\\[([^\\]]+)\\]").matcher(method.body);
            while (matcher.find()) {
                String index = matcher.group(1);
                boolean looked = index.matches("[0-2]")
                    || index.matches("\\w+") && many("\\b" + index + " (<|>=|==|!=) ", method.body) > 0;
                Check.due("index " + index + " looked at in " + method.name, looked ? 1 : 0, 1);
                found++;
            }
        }
        Check.due("indices found", found > 20 ? 1 : 0, 1);
    }

    // Rule 7: a divisor is looked at, unless it is a written number.
    private static void divisors(List<Method> methods) {
        for (Method method : methods) {
            Matcher matcher = Pattern.compile(" [/%] (\\w+)").matcher(method.body);
            while (matcher.find()) {
                String divisor = matcher.group(1);
                boolean looked = divisor.matches("[1-9]\\d*")
                    || many("\\b" + divisor + " == 0", method.body) > 0;
                Check.due("divisor " + divisor + " looked at in " + method.name, looked ? 1 : 0, 1);
            }
        }
    }

    // Rule 9: each loop has a counter against a bound in its head.
    private static void loops(List<Method> methods) {
        for (Method method : methods) {
            int all = many("\\b(for|while|do)\\b", method.body);
            int counted = many("\\bfor \\(int \\w+ = [^;]+; \\w+ (<|>=) [^;]+; \\w+(\\+\\+|--)\\)", method.body)
                + many("\\bwhile \\(\\w+ < \\w+\\b", method.body);
            Check.due("loops with a counter in " + method.name, counted, all);
        }
    }

    // Rule 11.
    private static void parameters(List<Method> methods) {
        for (Method method : methods) {
            int parameters = method.parameters.isEmpty() ? 0 : method.parameters.split(",").length;
            Check.due("parameters of " + method.name + ", at most 7",
                parameters <= PARAMETERS_MOST ? 1 : 0, 1);
        }
    }

    // Rule 11: methods of one name are taken for one, so that a way is told too long, never too short.
    private static void depths(List<Method> methods) {
        Map<String, StringBuilder> bodies = new TreeMap<>();
        for (Method method : methods) {
            bodies.computeIfAbsent(method.name, name -> new StringBuilder()).append(method.body);
        }
        for (String name : bodies.keySet()) {
            int depth = depth(bodies, name, 1);
            Check.due("calls from " + name + " go at most eight deep", depth <= DEPTH_MOST ? 1 : 0, 1);
        }
        Check.due("methods that call themselves", recursive(bodies), "fillTerm");
    }

    private static int depth(Map<String, StringBuilder> bodies, String name, int level) {
        int deepest = level;
        for (String other : bodies.keySet()) {
            boolean called = !other.equals(name) && many("\\b" + other + "\\(", bodies.get(name)) > 0;
            // Two that call one another would never end here: beyond the limit it is wrong anyway.
            if (called && level <= DEPTH_MOST) {
                deepest = Math.max(deepest, depth(bodies, other, level + 1));
            }
        }
        return deepest;
    }

    private static String recursive(Map<String, StringBuilder> bodies) {
        StringBuilder names = new StringBuilder();
        for (String name : bodies.keySet()) {
            // A dot ahead means another object's method of the same name.
            if (many("(?<!\\.)\\b" + name + "\\(", bodies.get(name)) > 0) {
                names.append(names.length() > 0 ? " " : "").append(name);
            }
        }
        return names.toString();
    }
}
