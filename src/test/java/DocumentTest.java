import java.io.IOException;
import java.lang.reflect.Method;
import java.lang.reflect.Modifier;
import java.nio.file.DirectoryStream;
import java.nio.file.Files;
import java.nio.file.Path;
import java.util.ArrayList;
import java.util.Arrays;
import java.util.List;
import java.util.regex.Matcher;
import java.util.regex.Pattern;

/** The document itself: that the class has its face, and that each of its sentences has a test. */
public final class DocumentTest {
    private static final Path DOCUMENT = Path.of("../shared/DOC.md");
    private static final Path CLASS = Path.of("src/main/java/MarginBooks.java");
    private static final Path TESTS = Path.of("src/test/java");
    private static final String SIGNATURE = "(?:int|long) (\\w+)\\(([^)]*)\\)";
    /**
     * What no test quotes: headings, what the other parts of this test look at, and what the
     * document leaves free.
     */
    private static final String[] FRAME = {"^# MarginBooks ## What it is ", "======== \\d ",
        "## The public face ```java .*? ``` ## Terms ", "```(text)?", "Ahead of the calls .*?---- [^.]*",
        "## Promise 1: A new object ", "## Promise \\d+: \\w+ `" + SIGNATURE + "`: ",
        "; what later calls answer is free\\.", "## Not promised .*$"};

    private DocumentTest() {
    }

    public static void main(String[] args) throws IOException {
        if (Files.isReadable(DOCUMENT)) {
            String document = Files.readString(DOCUMENT);
            face(document);
            promises(document);
            parts(document);
            quoted(document);
        } else {
            System.out.println("there is no " + DOCUMENT + " to look into");
        }
        Due.is("methods of the face", faceOfClass().size(), 27);
        Due.close();
    }

    /** As the document writes them, but for the names of numbers, which a class does not keep. */
    private static List<String> faceOfClass() {
        List<String> found = new ArrayList<>();
        for (Method m : MarginBooks.class.getDeclaredMethods()) {
            if (Modifier.isPublic(m.getModifiers())) {
                String[] numbers = new String[m.getParameterCount()];
                Arrays.setAll(numbers, i -> m.getParameterTypes()[i].getName());
                found.add(m.getReturnType() + " " + m.getName() + "("
                        + String.join(", ", numbers) + ")");
            }
        }
        return found;
    }

    private static String withoutNames(String signature) {
        return signature.replaceAll("(int|long) \\w+(?=[,)])", "$1");
    }

    private static void face(String document) {
        Matcher block = Pattern.compile("(?s)```java\n(.*?)```").matcher(document);
        Due.holds("the document has a face", block.find());
        List<String> told = new ArrayList<>();
        Matcher method = Pattern.compile("public (" + SIGNATURE + ");").matcher(block.group(1));
        while (method.find()) {
            told.add(withoutNames(method.group(1)));
        }
        List<String> stands = faceOfClass();
        Due.holds("told, but not there: " + without(told, stands), stands.containsAll(told));
        Due.holds("there, but not told: " + without(stands, told), told.containsAll(stands));
        constant(block.group(1), "BAD", MarginBooks.BAD);
        constant(block.group(1), "STATE", MarginBooks.STATE);
        constant(block.group(1), "FULL", MarginBooks.FULL);
        constant(block.group(1), "NONE", MarginBooks.NONE);
        constant(block.group(1), "NO", MarginBooks.NO);
    }

    private static List<String> without(List<String> some, List<String> others) {
        List<String> rest = new ArrayList<>(some);
        rest.removeAll(others);
        return rest;
    }

    private static void constant(String face, String name, int is) {
        Due.holds("the face has " + name + " = " + is,
                Pattern.compile("\\b" + name + " = " + is + "[,;]").matcher(face).find());
    }

    /** Each promise but the first, a new object, is one method's, and each method has one. */
    private static void promises(String document) {
        List<String> told = new ArrayList<>();
        Matcher promise = Pattern.compile("## Promise (\\d+): (\\w+)\n\n`(" + SIGNATURE + ")`: ")
                .matcher(document);
        while (promise.find()) {
            told.add(withoutNames(promise.group(3)));
            Due.is("its number", Integer.parseInt(promise.group(1)), told.size() + 1);
            Due.holds("its name is " + promise.group(2), promise.group(4).equals(promise.group(2)));
        }
        List<String> stands = faceOfClass();
        Due.holds("without a promise: " + without(stands, told), told.containsAll(stands));
        Due.holds("without a method: " + without(told, stands), stands.containsAll(told));
    }

    /** The class is written in the interface's parts, each ahead of its calls. */
    private static void parts(String document) throws IOException {
        Matcher part = Pattern.compile("Ahead of the calls ((?:`\\w+`,? )+)the interface says: (.*)\\.")
                .matcher(document);
        String text = Files.readString(CLASS);
        int from = 0;
        int calls = 0;
        while (part.find()) {
            int at = text.indexOf("// " + part.group(2) + "\n", from);
            Due.holds(part.group(2) + " comes next in the class", at >= 0);
            int end = text.indexOf("// ----", at + 1);
            String under = text.substring(at, end < 0 ? text.length() : end);
            int behind = 0;
            for (String call : part.group(1).replace("`", "").trim().split(", ")) {
                int place = under.indexOf(" " + call + "(", behind);
                Due.holds(call + "() is under " + part.group(2) + ", in order", place >= behind);
                behind = Math.max(place, behind);
                calls++;
            }
            from = Math.max(at, from);
        }
        Due.is("calls in all parts", calls, faceOfClass().size());
    }

    /** Each word of the document is in a quotation by which a test goes. */
    private static void quoted(String document) throws IOException {
        String line = document.replaceAll("\\s+", " ");
        boolean[] held = new boolean[line.length()];
        for (String part : FRAME) {
            hold(held, Pattern.compile(part).matcher(line));
        }
        List<String> quotations = quotations();
        Due.holds("tests quote the document", quotations.size() > 28);
        for (String words : quotations) {
            hold(held, Pattern.compile(Pattern.quote(words)).matcher(line));
        }
        Matcher word = Pattern.compile("\\w+").matcher(line);
        while (word.find()) {
            int from = Math.max(0, word.start() - 30);
            int to = Math.min(line.length(), word.end() + 30);
            Due.holds("a test quotes \"" + word.group() + "\" in: " + line.substring(from, to),
                    held[word.start()]);
        }
    }

    private static void hold(boolean[] held, Matcher found) {
        while (found.find()) {
            Arrays.fill(held, found.start(), found.end(), true);
        }
    }

    private static List<String> quotations() throws IOException {
        List<String> found = new ArrayList<>();
        Pattern call = Pattern.compile("Due\\.by\\(((?:\\s*\"(?:[^\"\\\\]|\\\\.)*\"\\s*\\+?)+)\\)");
        Pattern words = Pattern.compile("\"((?:[^\"\\\\]|\\\\.)*)\"");
        try (DirectoryStream<Path> tests = Files.newDirectoryStream(TESTS, "*Test.java")) {
            for (Path test : tests) {
                Matcher quote = call.matcher(Files.readString(test));
                while (quote.find()) {
                    StringBuilder whole = new StringBuilder();
                    Matcher piece = words.matcher(quote.group(1));
                    while (piece.find()) {
                        whole.append(piece.group(1).replace("\\\"", "\""));
                    }
                    found.add(whole.toString());
                }
            }
        }
        return found;
    }
}
