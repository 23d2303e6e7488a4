import java.io.IOException;
import java.nio.file.Files;
import java.nio.file.Path;
import java.util.ArrayList;
import java.util.List;
import java.util.Map;
import java.util.TreeMap;
import java.util.regex.Matcher;
import java.util.regex.Pattern;

/** The document's words, and which of them the tests have quoted. */
final class Doc {
    private static final Path PLACE = Path.of("../shared/DOC.md");
    private static final Pattern PROMISE = Pattern.compile("## Promise (\\d+):.*");

    /** The texts of the promises by their numbers; 0: the Terms. */
    private final Map<Integer, String> texts = new TreeMap<>();
    private final Map<Integer, boolean[]> quoted = new TreeMap<>();

    Doc() throws IOException {
        // A checkout without the document can still be tested: then the quotes are only labels.
        if (!Files.exists(PLACE)) {
            System.out.println("there is no " + PLACE + ": quotes are not compared with it");
            return;
        }
        int section = -1;
        for (String line : Files.readAllLines(PLACE)) {
            if (line.startsWith("## ")) {
                section = numberOf(line);
            } else if (section >= 0 && !line.startsWith("```") && !line.startsWith("Ahead of the calls ")) {
                texts.merge(section, line.strip().replaceFirst("^\\d\\. |^`[^`]*`: ", ""), (a, b) -> (a + " " + b).strip());
            }
        }
        texts.forEach((number, text) -> quoted.put(number, new boolean[text.length()]));
    }

    private static int numberOf(String heading) {
        Matcher m = PROMISE.matcher(heading);
        return m.matches() ? Integer.parseInt(m.group(1)) : heading.equals("## Terms") ? 0 : -1;
    }

    /** Whether the words stand there; of several places the first that isn't quoted yet is taken. */
    boolean quote(int promise, String words) {
        if (texts.isEmpty()) {
            return true;
        }
        String text = texts.getOrDefault(promise, "");
        int place = text.indexOf(words);
        if (place < 0) {
            return false;
        }
        boolean[] marks = quoted.get(promise);
        for (int next = place; next >= 0; next = text.indexOf(words, next + 1)) {
            if (!marks[next]) {
                place = next;
                break;
            }
        }
        for (int i = 0; i < words.length(); i++) {
            marks[place + i] = true;
        }
        return true;
    }

    /** What no test has quoted, with the number of its promise. */
    List<String> unquoted() {
        List<String> rests = new ArrayList<>();
        texts.forEach((number, text) -> {
            StringBuilder rest = new StringBuilder();
            for (int i = 0; i < text.length(); i++) {
                rest.append(quoted.get(number)[i] ? ' ' : text.charAt(i));
            }
            for (String part : rest.toString().split(" {2,}")) {
                if (part.chars().anyMatch(Character::isLetterOrDigit)) {
                    rests.add(number + ": " + part.strip());
                }
            }
        });
        return rests;
    }

    int promises() {
        return texts.isEmpty() ? 52 : texts.size() - 1;
    }
}
