import java.io.IOException;
import java.nio.file.Files;
import java.nio.file.Path;

/** Tests that are told by the words of the document to which they hold the class. */
final class Words {
    private static final Path DOCUMENT = Path.of("..", "shared", "DOC.md");

    private final Check check;
    private final String document;

    Words(Check check) {
        this.check = check;
        this.document = read();
    }

    /** Only a hint is printed for words that the document has no more: the class may be right all the same. */
    void hold(String words, Runnable test) {
        if (!document.isEmpty() && !document.contains(flat(words))) {
            System.out.println("the document does not say: " + words);
        }
        check.about(words);
        test.run();
        check.about("");
    }

    private static String read() {
        if (!Files.isReadable(DOCUMENT)) {
            return "";
        }
        try {
            return flat(Files.readString(DOCUMENT));
        } catch (IOException e) {
            return "";
        }
    }

    private static String flat(String text) {
        return text.replaceAll("\\s+", " ");
    }
}
