import java.io.IOException;
import java.nio.file.Files;
import java.nio.file.Path;

/** What the tests share: they say every answer that is not as due, and end with 1 if one was. */
final class Due {
    private static final Path DOCUMENT = Path.of("../shared/DOC.md");

    private static int asked;
    private static int wrong;
    private static String sentence = "";
    private static String document;

    private Due() {
    }

    /** What follows is due by this sentence, which must stand so in the document. */
    static void by(String words) {
        sentence = " (" + words + ")";
        if (document == null) {
            document = readDocument();
        }
        holds("the document has these words", document.isEmpty() || document.contains(words));
    }

    /** In one line; nothing, where there is no document to look into. */
    private static String readDocument() {
        try {
            return Files.readString(DOCUMENT).replaceAll("\\s+", " ");
        } catch (IOException e) {
            return "";
        }
    }

    static void is(String call, long got, long want) {
        asked++;
        if (got != want) {
            wrong++;
            if (wrong <= 50) {
                System.out.println(call + " answered " + got + ", due is " + want + sentence);
            }
        }
    }

    static void holds(String what, boolean so) {
        asked++;
        if (!so) {
            wrong++;
            System.out.println("not so: " + what + sentence);
        }
    }

    static void type(MarginBooks x, String text) {
        for (int i = 0; i < text.length(); i++) {
            x.type(text.charAt(i));
        }
    }

    /** A new object whose house is as told. */
    static MarginBooks told(String text) {
        MarginBooks x = new MarginBooks();
        type(x, text);
        int items = x.house();
        holds("house() takes \"" + text + "\"", items >= 0);
        return x;
    }

    static boolean allRight() {
        return wrong == 0;
    }

    static void close() {
        System.out.println(wrong == 0 ? asked + " answers, all as due"
                : wrong + " of " + asked + " answers are not as due");
        if (wrong != 0 || asked == 0) {
            System.exit(1);
        }
    }
}
