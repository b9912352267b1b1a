import java.io.IOException;
import java.nio.file.Files;
import java.nio.file.Path;
import java.util.ArrayList;
import java.util.LinkedHashMap;
import java.util.List;
import java.util.Map;

/** The terms and the promises of the document, sentence by sentence, to look up what a test quotes. */
final class Document {
    private final Map<String, String> places = new LinkedHashMap<>();

    Document(Path path) throws IOException {
        String place = "";
        for (String line : Files.readAllLines(path)) {
            if (line.startsWith("## ")) {
                place = line.substring(3).replaceAll(":.*", "");
            } else if (place.equals("Terms") || place.startsWith("Promise")) {
                String words = line.startsWith("```") ? "" : line.replaceFirst("^`[^`]*`: ", "");
                places.merge(place, words, (before, more) -> before + " " + more);
            }
        }
        places.replaceAll((name, words) -> words.replaceAll("\\s+", " ").trim());
    }

    void compare(Check check) {
        for (Check.Quotation quotation : check.quotations()) {
            check.promise(quotation.place() + ", \"" + quotation.words() + "\"");
            if (!places.getOrDefault(quotation.place(), "").contains(quotation.words())) {
                check.tell("the document has no such words there");
            }
        }
        check.promise("The document");
        places.forEach((place, words) -> sentences(words).stream()
            .filter(sentence -> !isQuoted(check, place, sentence))
            .forEach(sentence -> check.tell("no test is for " + place + ", \"" + sentence + "\"")));
    }

    private static boolean isQuoted(Check check, String place, String sentence) {
        return check.quotations().stream().anyMatch(quotation -> quotation.place().equals(place)
            && (quotation.words().contains(sentence) || sentence.contains(quotation.words())));
    }

    /** The words between full stops and semicolons, but for those inside brackets. */
    private static List<String> sentences(String words) {
        List<String> sentences = new ArrayList<>();
        int depth = 0;
        int start = 0;
        for (int i = 0; i < words.length(); i++) {
            char c = words.charAt(i);
            depth += c == '(' ? 1 : c == ')' ? -1 : 0;
            boolean last = i + 1 == words.length();
            boolean stop = c == ';' || c == '.' && i > 0 && " .".indexOf(words.charAt(i - 1)) < 0;
            if (last || stop && depth == 0 && words.charAt(i + 1) == ' ') {
                sentences.add(words.substring(start, stop ? i : i + 1).trim());
                start = i + 1;
            }
        }
        sentences.removeIf(sentence -> sentence.isEmpty() || sentence.startsWith("===="));
        return sentences;
    }
}
