import java.io.IOException;
import java.nio.file.Files;
import java.nio.file.Path;
import java.util.ArrayList;
import java.util.LinkedHashMap;
import java.util.List;
import java.util.Map;

/** The sentences of ../shared/DOC.md, by promise (0: its Terms), so that none is left without a test. */
final class Doc {
    private static final Path FILE = Path.of("../shared/DOC.md");
    /** A full stop that ends a sentence: none of two that stand for "and so on". */
    private static final String FULL_STOP = "(?<=[^.])\\.(?:\\s+|$)";

    private final Map<Integer, List<String>> sentences = new LinkedHashMap<>();

    Doc() throws IOException {
        String all = Files.readString(FILE);
        String told = all.substring(all.indexOf("## Terms"), all.indexOf("## Not promised"));
        for (String section : told.split("(?m)^## ")) {
            if (!section.isEmpty()) {
                String head = section.substring(0, section.indexOf('\n'));
                int promise = head.startsWith("Promise ") ? Integer.parseInt(head.replaceAll("\\D+", "")) : 0;
                sentences.put(promise, split(section.substring(head.length())));
            }
        }
    }

    private static List<String> split(String body) {
        List<String> split = new ArrayList<>();
        for (String line : body.split("\n")) {
            String plain = line.strip().replaceAll("^```.*", "").replaceAll("^`[^`]*`: ", "");
            for (String sentence : plain.split(FULL_STOP)) {
                if (!sentence.isBlank() && !namesNoBoundary(sentence)) {
                    split.add(sentence);
                }
            }
        }
        return split;
    }

    private static boolean namesNoBoundary(String sentence) {
        return sentence.matches("[1-3]") || sentence.startsWith("Ahead of the calls ")
            || sentence.equals("(Others as the KIND above.)");
    }

    /** The one sentence of a promise that reads so, or, with .. at its end, that begins so. */
    String find(int promise, String quoted) {
        String found = null;
        for (String sentence : sentences.getOrDefault(promise, List.of())) {
            boolean is = quoted.endsWith(" ..")
                ? sentence.startsWith(quoted.substring(0, quoted.length() - 3)) : sentence.equals(quoted);
            if (is && found != null) {
                throw new IllegalStateException("promise " + promise + " says this twice: " + quoted);
            }
            found = is ? sentence : found;
        }
        if (found == null) {
            throw new IllegalStateException("promise " + promise + " does not say: " + quoted);
        }
        return promise + ": " + found;
    }

    List<String> all() {
        List<String> all = new ArrayList<>();
        sentences.forEach((promise, told) -> told.forEach(sentence -> all.add(promise + ": " + sentence)));
        return all;
    }
}
