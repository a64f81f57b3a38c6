import java.io.IOException;
import java.nio.file.Files;
import java.nio.file.Path;
import java.util.regex.Matcher;
import java.util.regex.Pattern;

/** The rules of LANGUAGE.md that can be seen in the text of the program (its path is the argument). */
public final class LanguageTest {
    private static final String[] FORBIDDEN = {
        "\\bimport\\b", "\\bpackage\\b", "->", "::", "\\btry\\b", "\\bcatch\\b", "\\bfinally\\b",
        "\\bsynchronized\\b", "\\bassert\\b", "\\bprotected\\b", "\\bSystem\\b", "\\bThread\\b",
        "\\bnull\\b", "\\bstatic \\{", "Exact\\(", "\\bnative\\b", "\\bvolatile\\b",
    };
    private static final int METHOD_MOST = 60;

    public static void main(String[] args) throws IOException {
        String path = args.length > 0 ? args[0] : "src/main/java/TermMachine.java";
        String source = bare(Files.readString(Path.of(path)));
        for (String word : FORBIDDEN) {
            Check.due("places of " + word, many(word, source), 0);
        }
        names(source);
        objects(source);
        statics(source);
        lengths(source);
        Check.due("classes inside, at most 12", many("\\bclass\\b", source) <= 12 ? 1 : 0, 1);
        Check.close("LanguageTest");
    }

    /** Without comments and written texts. */
    private static String bare(String source) {
        return source.replaceAll("(?s)/\\*.*?\\*/", "").replaceAll("//[^\\n]*", "")
            .replaceAll("\"[^\"\\n]*\"", "\"\"");
    }

    private static int many(String word, String source) {
        Matcher matcher = Pattern.compile(word).matcher(source);
        int count = 0;
        while (matcher.find()) {
            count++;
        }
        return count;
    }

    // Rule 1: no other method bears the name of one of the face.
    private static void names(String source) {
        String[] face = {"text", "read", "begin", "run", "told", "about"};
        for (String name : face) {
            Check.due("methods called " + name, many("\\b\\w+ " + name + "\\(\\w", source)
                + many("\\b\\w+ " + name + "\\(\\) \\{", source), 1);
        }
    }

    // All rows are made with the object: a call makes nothing but exceptions.
    private static void objects(String source) {
        int all = many("\\bnew\\b", source);
        int fields = many("(?m)^ +private (final )?[\\w\\[\\]]+ \\w+ = new [^;]*;", source);
        Check.due("new elsewhere", all - fields - many("throw new Illegal\\w+\\(\"\"\\)", source), 0);
    }

    private static void statics(String source) {
        int fields = many("(?m)^ +(private|public) static [^(\\n]*=", source);
        Check.due("static fields that are final", many("(?m)^ +(private|public) static final [^(\\n]*=",
            source), fields);
    }

    private static void lengths(String source) {
        int start = 0;
        String[] lines = source.split("\n");
        for (int i = 0; i < lines.length; i++) {
            boolean head = lines[i].endsWith(") {") || lines[i].contains("Exception {");
            if (head && lines[i].matches(" {4,8}[a-z].*")) {
                start = i;
            }
            if (lines[i].matches(" {4,8}\\}") && start > 0) {
                Check.due("lines of the method at " + lines[start].trim(),
                    i - start < METHOD_MOST ? 1 : 0, 1);
                start = 0;
            }
        }
    }
}
