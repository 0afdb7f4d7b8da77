import java.io.IOException;
import java.nio.file.Files;
import java.nio.file.Path;
import java.util.ArrayList;
import java.util.HashSet;
import java.util.List;
import java.util.Set;

/**
 * One test for each sentence of the document that names an edge, under the sentence's own
 * words: a sentence that the document no longer has, or that is tried by no call, is wrong too.
 */
final class Sentences {
    interface Trial {
        void run(Check check);
    }

    private static final Path DOCUMENT = Path.of("..", "shared", "DOC.md");

    private final String name;
    private final String document;
    private final Set<String> tried = new HashSet<>();
    private final List<String> broken = new ArrayList<>();
    private int answers = 0;

    Sentences(String name) {
        this.name = name;
        this.document = inOneLine(documentText());
    }

    private static String documentText() {
        try {
            return Files.readString(DOCUMENT);
        } catch (IOException unread) {
            throw new IllegalStateException("can't read " + DOCUMENT.toAbsolutePath(), unread);
        }
    }

    private static String inOneLine(String text) {
        return text.replaceAll("\\s+", " ");
    }

    void holds(String words, Trial trial) {
        holds(words, "", trial);
    }

    /** Words that name several edges are tried once for each: of tells which. */
    void holds(String words, String of, Trial trial) {
        String title = of.isEmpty() ? words : words + " [" + of + "]";
        Check check = new Check(name + ": '" + title + "'");
        check.due("the document has these words", document.contains(words) ? 1 : 0, 1);
        check.due("it is tried once", tried.add(title) ? 1 : 0, 1);
        int before = check.seen();
        try {
            trial.run(check);
        } catch (RuntimeException thrown) {
            check.due("nothing thrown but " + thrown, 1, 0);
        }
        check.due("some call tries it", check.seen() > before ? 1 : 0, 1);
        answers += check.seen() - before;
        if (check.wrong() > 0) {
            broken.add(title);
        }
    }

    Set<String> tried() {
        return tried;
    }

    List<String> broken() {
        return broken;
    }

    void end() {
        System.out.println(name + ": " + tried.size() + " sentences, " + answers + " answers, "
            + broken.size() + " sentences broken");
        if (!broken.isEmpty()) {
            System.exit(1);
        }
    }
}
