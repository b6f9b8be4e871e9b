import java.io.IOException;
import java.nio.file.Files;
import java.nio.file.Path;
import java.util.ArrayList;
import java.util.LinkedHashMap;
import java.util.List;
import java.util.Map;
import java.util.regex.Matcher;
import java.util.regex.Pattern;

/** The document by places (What it is, Terms 1 to 7, Refusals, Promise 1 to 57), and which of its words are quoted. */
final class Quotes {
    private final Map<String, String> texts = new LinkedHashMap<>();
    private final Map<String, boolean[]> marks = new LinkedHashMap<>();

    /** Only places whose names begin as told are kept. */
    Quotes(String... beginnings) throws IOException {
        readDocument(Files.readString(Path.of("../shared/DOC.md")));
        texts.keySet().removeIf(place -> List.of(beginnings).stream().noneMatch(place::startsWith));
        texts.forEach((place, text) -> marks.put(place, new boolean[text.length()]));
    }

    private void readDocument(String document) {
        String plain = document.replaceAll("(?m)^```.*$", " ").replaceAll("\\s+", " ");
        String first = between(plain, "## What it is ", "## The public face");
        texts.put("What it is", first.substring(first.indexOf("An object is used")).trim());
        // The first words of part 1 of the terms stand ahead of the terms.
        String lands = between(first, "======== 1 ", " An object is used");
        String terms = "======== 1 " + lands + " " + between(plain, "## Terms ", "Refusals, the first that fits");
        Matcher parts = Pattern.compile("======== (\\d) (.*?)(?= ======== |$)").matcher(terms);
        while (parts.find()) {
            texts.put("Terms " + parts.group(1), parts.group(2).trim());
        }
        texts.put("Refusals", "Refusals, the first that fits" + between(plain, "Refusals, the first that fits", "Ahead of the calls"));
        Matcher promises = Pattern.compile("## (Promise \\d+): \\w[\\w ]* `[^`]*`: (.*?)(?= ## )").matcher(plain);
        while (promises.find()) {
            texts.put(promises.group(1), promises.group(2).trim());
        }
        if (texts.size() != 1 + 7 + 1 + 57) throw new IllegalStateException("the document has other places: " + texts.keySet());
    }

    private static String between(String text, String from, String to) {
        int start = text.indexOf(from) + from.length();
        return text.substring(start, text.indexOf(to, start));
    }

    /** Whether the words stand there. */
    boolean mark(String place, String words) {
        String text = texts.get(place);
        if (text == null || words.isEmpty() || !text.contains(words)) return false;
        for (int at = text.indexOf(words); at >= 0; at = text.indexOf(words, at + 1)) {
            for (int i = 0; i < words.length(); i++) {
                marks.get(place)[at + i] = true;
            }
        }
        return true;
    }

    /** The runs of words that no test quotes. */
    List<String> unmarked() {
        List<String> out = new ArrayList<>();
        for (Map.Entry<String, String> entry : texts.entrySet()) {
            StringBuilder rest = new StringBuilder();
            for (int i = 0; i < entry.getValue().length(); i++) {
                rest.append(marks.get(entry.getKey())[i] ? '\n' : entry.getValue().charAt(i));
            }
            for (String run : rest.toString().split("\n+")) {
                if (run.matches(".*\\w.*")) out.add(entry.getKey() + ": " + run.trim());
            }
        }
        return out;
    }
}
