import java.io.IOException;
import java.nio.file.Files;
import java.nio.file.Path;
import java.util.regex.Matcher;
import java.util.regex.Pattern;

/** Rules of ../shared/LANGUAGE.md that can be seen from the text of the class alone. */
public final class LanguageTest {
    private static final String[] NEVER = {
        "\\bthrow\\b", "\\bthrows\\b", "\\btry\\b", "\\bcatch\\b", "\\bsynchronized\\b", "\\bassert\\b",
        "\\bimport\\b", "\\bpackage\\b", "->", "::", "@", "Exact\\b", "\\bprotected\\b", "\\bvolatile\\b",
        "\\bnative\\b", "\\bThread\\b", "\\bRandom\\b", "\\bMath\\s*\\.\\s*random\\b", "\\bSystem\\s*\\.\\s*(?!arraycopy\\b)",
        "\\bObject\\b", "\\bClass\\b", "\\bgetClass\\b", "\\bhashCode\\b", "\\btoString\\b", "\\bequals\\b",
        "\\bInteger\\s*\\.\\s*parse", "\\bformat\\b", "\\bstatic\\s*\\{", "\\bvar\\b", "\\byield\\b"
    };
    private static final int LONGEST_METHOD = 60;
    private static final Pattern METHOD = Pattern.compile("^( {4}| {8})[a-zA-Z][^=;]*\\) \\{$");

    private static int wrong = 0;

    private static void tell(String what) {
        wrong++;
        System.out.println(what);
    }

    private static String withoutComments(String source) {
        return source.replaceAll("(?s)/\\*.*?\\*/", "").replaceAll("//[^\n]*", "").replaceAll("\"[^\"\n]*\"", "\"\"");
    }

    private static void longMethods(String[] lines) {
        for (int i = 0; i < lines.length; i++) {
            Matcher m = METHOD.matcher(lines[i]);
            if (m.find()) {
                int end = i;
                while (end < lines.length && !lines[end].equals(m.group(1) + "}")) {
                    end++;
                }
                if (end - i > LONGEST_METHOD) {
                    tell("a method of " + (end - i) + " lines: " + lines[i].strip());
                }
            }
        }
    }

    public static void main(String[] args) throws IOException {
        String source = Files.readString(Path.of("src/main/java/BeardHire.java"));
        String code = withoutComments(source);
        for (String never : NEVER) {
            Matcher m = Pattern.compile(never).matcher(code);
            if (m.find()) {
                tell("the code has: " + m.group());
            }
        }
        for (int i = 0; i < source.length(); i++) {
            if (source.charAt(i) > 126) {
                tell("a sign that is not plain at " + i);
            }
        }
        longMethods(source.split("\n"));
        System.out.println(wrong == 0 ? "the rules are kept" : wrong + " rules are broken");
        if (wrong != 0) {
            System.exit(1);
        }
    }
}
