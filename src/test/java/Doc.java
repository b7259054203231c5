import java.io.IOException;
import java.nio.file.Files;
import java.nio.file.Path;
import java.util.ArrayList;
import java.util.LinkedHashMap;
import java.util.List;
import java.util.Map;
import java.util.regex.Matcher;
import java.util.regex.Pattern;

// The sentences of the document. A test of a boundary says which of them it looks at; in the end no
// sentence must be left of which no test said that.
final class Doc {
    private static final Path DOCUMENT = Path.of("../shared/DOC.md");
    private static final Map<String, Part> PARTS = read();

    private Doc() {
    }

    private static final class Sentence {
        final String text;
        final int from;
        boolean isSaid;

        Sentence(String text, int from) {
            this.text = text;
            this.from = from;
        }
    }

    private static final class Part {
        final StringBuilder whole = new StringBuilder();
        final List<Sentence> sentences = new ArrayList<>();

        void add(String text) {
            sentences.add(new Sentence(text, whole.length()));
            whole.append(text).append(' ');
        }

        boolean says(String quote) {
            int from = whole.indexOf(quote);
            for (Sentence sentence : sentences) {
                if (from >= 0 && from < sentence.from + sentence.text.length() && sentence.from < from + quote.length()) {
                    sentence.isSaid = true;
                }
            }
            return from >= 0;
        }
    }

    static void says(int promise, String quote) {
        says("Promise " + promise, quote);
    }

    static void says(String part, String quote) {
        boolean isThere = PARTS.containsKey(part) && PARTS.get(part).says(quote);
        Due.same(part + " of the document says \"" + quote + "\"", true, isThere);
    }

    static void allIsSaid() {
        for (Map.Entry<String, Part> part : PARTS.entrySet()) {
            for (Sentence sentence : part.getValue().sentences) {
                Due.same("a test of " + part.getKey() + ": " + sentence.text, true, sentence.isSaid);
            }
        }
    }

    private static Map<String, Part> read() {
        String document;
        try {
            document = Files.readString(DOCUMENT);
        } catch (IOException missing) {
            throw new IllegalStateException("the document cannot be read", missing);
        }
        Map<String, Part> parts = new LinkedHashMap<>();
        readTerms(between(document, "## Terms", "## Promise 1:"), parts);
        Matcher promise = Pattern.compile("## (Promise \\d+): (.*?)(?=\\n## )", Pattern.DOTALL).matcher(document);
        while (promise.find()) {
            readPromise(promise.group(2), newPart(promise.group(1), parts));
        }
        return parts;
    }

    private static String between(String document, String start, String end) {
        return document.substring(document.indexOf(start), document.indexOf(end));
    }

    private static Part newPart(String name, Map<String, Part> parts) {
        Part part = new Part();
        parts.put(name, part);
        return part;
    }

    // A paragraph that begins with one word and a full stop begins a part of this name.
    private static void readTerms(String terms, Map<String, Part> parts) {
        Part part = newPart("Terms", parts);
        for (String paragraph : terms.replaceFirst("## Terms", "").trim().split("\n\n")) {
            String text = paragraph.replaceAll("\\s+", " ");
            Matcher head = Pattern.compile("([A-Z][a-z]+)\\. (.*)").matcher(text);
            if (head.matches()) {
                part = newPart(head.group(1), parts);
                text = head.group(2);
            }
            addSentences(text, part);
        }
    }

    // A row of a parameter that names no number names no boundary.
    private static void readPromise(String promise, Part part) {
        String[] paragraphs = promise.split("\n\n");
        for (int place = 1; place < paragraphs.length; place++) {
            for (String row : paragraphs[place].split("\n(?=- )")) {
                String text = row.replaceAll("\\s+", " ").trim();
                if (text.startsWith("Throws")) {
                    part.add(text);
                } else if (!text.startsWith("- ") || text.matches(".*\\d.*")) {
                    addSentences(text.replaceFirst("^`[^`]*`: ", ""), part);
                }
            }
        }
    }

    private static void addSentences(String text, Part part) {
        for (String sentence : text.split("(?<=\\.) (?=[A-Z])|(?<=;) ")) {
            part.add(sentence);
        }
    }
}
