import java.io.IOException;
import java.lang.reflect.Method;
import java.nio.file.Files;
import java.nio.file.Path;
import java.util.ArrayList;
import java.util.HashMap;
import java.util.List;
import java.util.Map;
import java.util.regex.Matcher;
import java.util.regex.Pattern;

/** README.md names every call as the document does, and its examples answer what stands behind them. */
public final class ReadmeTest {
    private static final Pattern FACE = Pattern.compile("public (?:int|long) (\\w+)\\(([^)]*)\\);");
    private static final Pattern LISTED = Pattern.compile("(?m)^\\| `(\\w+\\([^)]*\\))` \\|");
    private static final Pattern BLOCK = Pattern.compile("(?s)```(java|text)\n(.*?)```");
    private static final Pattern CALL =
        Pattern.compile("(?:int (\\w+) = )?shop\\.(\\w+)\\(([^)]*)\\); *// (-?\\d+)\\b.*");
    private static final String MADE = "BeardHire shop = new BeardHire();";

    private final Due due = new Due();
    private final Map<String, Integer> names = new HashMap<>();
    private BeardHire shop = new BeardHire();

    private static List<String> callsOf(String document) {
        List<String> calls = new ArrayList<>();
        Matcher m = FACE.matcher(document);
        while (m.find()) {
            calls.add(m.group(1) + "(" + m.group(2).replaceAll("(int|long) ", "") + ")");
        }
        return calls;
    }

    private static List<String> callsListed(String readme) {
        List<String> calls = new ArrayList<>();
        Matcher m = LISTED.matcher(readme);
        while (m.find()) {
            calls.add(m.group(1));
        }
        return calls;
    }

    private int number(String told) {
        if (names.containsKey(told)) {
            return names.get(told);
        }
        return told.startsWith("'") ? told.charAt(1) : Integer.decode(told);
    }

    private long answer(String name, String arguments) throws ReflectiveOperationException {
        Object[] numbers = arguments.isEmpty() ? new Object[0]
            : Pattern.compile(", ").splitAsStream(arguments).map(this::number).toArray();
        for (Method m : BeardHire.class.getMethods()) {
            if (m.getName().equals(name) && m.getParameterCount() == numbers.length) {
                return ((Number) m.invoke(shop, numbers)).longValue();
            }
        }
        throw new IllegalStateException("README.md calls what isn't there: " + name);
    }

    private void follow(String example) throws ReflectiveOperationException {
        names.clear();
        for (String line : example.split("\n")) {
            Matcher m = CALL.matcher(line);
            if (line.equals(MADE)) {
                shop = new BeardHire();
            } else if (m.matches()) {
                long answered = answer(m.group(2), m.group(3));
                due.is("README.md: " + line, answered, Long.parseLong(m.group(4)));
                if (m.group(1) != null) {
                    names.put(m.group(1), (int) answered);
                }
            } else {
                throw new IllegalStateException("README.md has an example that this test can't follow: " + line);
            }
        }
    }

    private void run() throws IOException, ReflectiveOperationException {
        String readme = Files.readString(Path.of("README.md"));
        List<String> promised = callsOf(Files.readString(Path.of("../shared/DOC.md")));
        due.is("the document's calls, read by this test,", promised.size(), 41);
        List<String> listed = callsListed(readme);
        due.is("calls of README.md as the document has them, of " + listed, listed.equals(promised) ? 1 : 0, 1);
        Matcher block = BLOCK.matcher(readme);
        while (block.find()) {
            if (block.group(1).equals("java")) {
                follow(block.group(2));
            } else {
                String text = block.group(2).strip();
                due.is("README.md: " + text, Due.shop(new BeardHire(), text), text.split(";").length);
            }
        }
        due.end();
    }

    public static void main(String[] args) throws IOException, ReflectiveOperationException {
        new ReadmeTest().run();
    }
}
