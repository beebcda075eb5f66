import java.io.IOException;
import java.nio.file.Files;
import java.nio.file.Path;
import java.util.ArrayList;
import java.util.Arrays;
import java.util.List;

/** The document's words, and which of them tests have quoted so far. */
final class Sentences {
    private static final String PROMISE = "Promise ";

    private static final class Section {
        final String title;
        final String words;
        final boolean[] quoted;

        Section(String title, String words) {
            this.title = title;
            this.words = words;
            this.quoted = new boolean[words.length()];
        }

        boolean quote(String sentence) {
            int from = words.indexOf(sentence);
            boolean found = from >= 0;
            while (from >= 0) {
                Arrays.fill(quoted, from, from + sentence.length(), true);
                from = words.indexOf(sentence, from + 1);
            }
            return found;
        }

        List<String> left() {
            List<String> parts = new ArrayList<>();
            StringBuilder part = new StringBuilder();
            for (int i = 0; i <= words.length(); i++) {
                if (i < words.length() && !quoted[i]) {
                    part.append(words.charAt(i));
                    continue;
                }
                if (part.chars().anyMatch(Character::isLetterOrDigit)) {
                    parts.add(title + ": '" + part.toString().strip() + "'");
                }
                part.setLength(0);
            }
            return parts;
        }
    }

    private final List<Section> sections = new ArrayList<>();

    Sentences(Path document) throws IOException {
        for (String section : Files.readString(document).split("(?m)^## ")) {
            int end = section.indexOf('\n');
            String title = section.substring(0, Math.max(0, end)).strip();
            // The signature ahead of a promise's words stands between backticks.
            String words = section.substring(end + 1).replaceFirst("(?s)^\\s*`[^`]*`: ", "");
            if (title.equals("What it is") || title.equals("Terms") || title.startsWith(PROMISE)) {
                sections.add(new Section(title, words));
            }
        }
    }

    /** Whether the promise, or the parts that hold for all promises, have this sentence. */
    boolean quote(int promise, String sentence) {
        boolean found = false;
        for (Section section : sections) {
            boolean another = section.title.startsWith(PROMISE) && !section.title.startsWith(PROMISE + promise + ":");
            if (!another && section.quote(sentence)) {
                found = true;
            }
        }
        return found;
    }

    String title(int promise) {
        for (Section section : sections) {
            if (section.title.startsWith(PROMISE + promise + ":")) {
                return section.title;
            }
        }
        return PROMISE + promise;
    }

    /** What stands in the terms and in the promises, but in no test. */
    List<String> left() {
        List<String> parts = new ArrayList<>();
        for (Section section : sections) {
            if (!section.title.equals("What it is")) {
                parts.addAll(section.left());
            }
        }
        return parts;
    }
}
