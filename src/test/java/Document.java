import java.io.IOException;
import java.nio.charset.StandardCharsets;
import java.nio.file.Files;
import java.nio.file.Path;
import java.util.ArrayList;
import java.util.List;

/** The words of the document, from its first line to the last promise, and the face that it shows. */
final class Document {
    private static final Path PLACE = Path.of("../shared/DOC.md");

    private Document() {
    }

    static String text() throws IOException {
        return Files.readString(PLACE, StandardCharsets.UTF_8);
    }

    /** The members that the document's face has, as it writes them but for "public" and ";". */
    static List<String> face() throws IOException {
        List<String> members = new ArrayList<>();
        for (String line : text().split("\n")) {
            if (line.matches("    public .*;")) {
                members.add(line.replaceAll("^ *public |;$", ""));
            }
        }
        return members;
    }

    /** Each sentence that a test is for stands in the document, and no word of it is left without a test. */
    static void isTested(List<Check.Sentence> sentences) throws IOException {
        List<String> parts = parts(text());
        Check.due("the parts of the document", parts.size(), 29);
        List<boolean[]> tested = new ArrayList<>();
        for (String part : parts) {
            tested.add(new boolean[part.length()]);
        }
        for (Check.Sentence sentence : sentences) {
            int at = parts.get(sentence.promise()).indexOf(sentence.words());
            Check.dueTrue("stands in the document: " + sentence, at >= 0);
            for (int i = 0; i < sentence.words().length() && at >= 0; i++) {
                tested.get(sentence.promise())[at + i] = true;
            }
        }
        for (int promise = 0; promise < parts.size(); promise++) {
            Check.due("words of part " + promise + " without a test: " + left(parts.get(promise), tested.get(promise)),
                    left(parts.get(promise), tested.get(promise)).length(), 0);
        }
    }

    /** The description, then each promise; only the words that tell what the class does. */
    private static List<String> parts(String document) {
        List<String> parts = new ArrayList<>();
        int end = document.indexOf("## Not promised");
        for (String section : document.substring(0, end).split("## Promise ")) {
            StringBuilder words = new StringBuilder();
            boolean inCode = false;
            for (String line : section.split("\n")) {
                if (line.startsWith("```")) {
                    inCode = !inCode;
                }
                if (!inCode && tells(line)) {
                    words.append(line.replace("`", "")).append(' ');
                }
            }
            parts.add(words.toString().replaceAll("\\s+", " "));
        }
        return parts;
    }

    /** Titles, signatures and lines that only lead to others tell nothing that could be tested. */
    private static boolean tells(String line) {
        return !line.startsWith("#") && !line.matches("\\d+: .*") && !line.matches("`[^`]*`|```.*|---- .*")
                && !line.startsWith("The constants:")
                && !line.startsWith("The constructor and the methods follow");
    }

    /** What is left of the words, without the names of paragraphs and the signs of lists. */
    private static String left(String words, boolean[] tested) {
        StringBuilder rest = new StringBuilder();
        for (int i = 0; i < words.length(); i++) {
            rest.append(tested[i] ? '\n' : words.charAt(i));
        }
        return rest.toString().replaceAll("\\b(NUMBERS|TIME|SWITCHES|ROUTES|TEXTS|HISTORY|ERRORS)\\.", "")
                .replaceAll("\\b[1-6]\\.", "").replaceAll("[\\s-]+", " ").trim();
    }
}
