import java.io.IOException;
import java.lang.reflect.Constructor;
import java.lang.reflect.Field;
import java.lang.reflect.Method;
import java.lang.reflect.Modifier;
import java.nio.file.Files;
import java.nio.file.Path;
import java.util.ArrayList;
import java.util.List;
import java.util.Set;
import java.util.TreeSet;
import java.util.regex.Matcher;
import java.util.regex.Pattern;

/** The public face, and those rules of LANGUAGE.md that a program can look for. */
public final class RulesTest {
    private static final Set<String> FACE = Set.of("int type(int)", "int clear()", "int house()",
            "int line(int,int)", "int scribe(int,int)", "int says(int,int)", "int copies(int)",
            "int errs(int,int)", "int releases(int,int)", "int aims(int,int)", "int undo()",
            "int now(int)", "int behind(int,int)", "int ends(int)", "int lasts(int)",
            "int buy(int)", "int odds(int,int,int)", "int way(int)", "int from(int)",
            "int saw(int,int)", "int forget()", "int fit(int)", "int mark(int,int)",
            "int keep(int)", "int back(int)", "int count(int)", "long trace()");
    private static final Set<String> CONSTANTS = Set.of("BAD", "STATE", "FULL", "NONE", "NO");
    private static final String[] RULED_OUT = {"throw", "throws", "try", "catch", "synchronized",
        "assert", "import", "package", "volatile", "native", "instanceof", "protected", "finally",
        "Object", "System.out", "Thread", "Random", "hashCode", "toString", "equals"};

    private RulesTest() {
    }

    public static void main(String[] args) throws IOException {
        face();
        insides();
        source(Files.readString(Path.of("src/main/java/MarginBooks.java")));
        Due.close();
    }

    private static void face() {
        Class<?> c = MarginBooks.class;
        Due.is("1 modifiers", c.getModifiers(), Modifier.PUBLIC | Modifier.FINAL);
        Set<String> methods = new TreeSet<>();
        for (Method m : c.getDeclaredMethods()) {
            if (Modifier.isPublic(m.getModifiers())) {
                methods.add(m.getReturnType() + " " + signature(m));
                Due.holds(m + " is of an object", !Modifier.isStatic(m.getModifiers()));
            } else {
                Due.holds(m + " is private", Modifier.isPrivate(m.getModifiers()));
            }
        }
        Due.holds("the methods are " + methods, methods.equals(FACE));
        Set<String> constants = new TreeSet<>();
        for (Field f : c.getDeclaredFields()) {
            if (Modifier.isPublic(f.getModifiers())) {
                constants.add(f.getName());
                Due.holds(f + " is an int constant", f.getType() == int.class
                        && Modifier.isStatic(f.getModifiers())
                        && Modifier.isFinal(f.getModifiers()));
            } else {
                Due.holds(f + " is private", Modifier.isPrivate(f.getModifiers()));
            }
        }
        Due.holds("the constants are " + constants, constants.equals(CONSTANTS));
        Constructor<?>[] made = c.getDeclaredConstructors();
        Due.holds("one public constructor without parameters", made.length == 1
                && made[0].getParameterCount() == 0 && Modifier.isPublic(made[0].getModifiers()));
        Due.holds("no class above", c.getSuperclass() == Object.class
                && c.getInterfaces().length == 0);
    }

    private static String signature(Method m) {
        StringBuilder text = new StringBuilder(m.getName()).append('(');
        for (Class<?> p : m.getParameterTypes()) {
            text.append(text.charAt(text.length() - 1) == '(' ? "" : ",").append(p);
        }
        return text.append(')').toString();
    }

    private static void insides() {
        List<Class<?>> all = new ArrayList<>();
        all.add(MarginBooks.class);
        all.addAll(List.of(MarginBooks.class.getDeclaredClasses()));
        Due.holds("11 twelve classes at most", all.size() <= 12);
        for (Class<?> c : all) {
            boolean inside = c != MarginBooks.class;
            Due.holds("2 " + c + " is static, not public", !inside
                    || Modifier.isStatic(c.getModifiers()) && !Modifier.isPublic(c.getModifiers()));
            int fields = 0;
            for (Field f : c.getDeclaredFields()) {
                boolean fixed = Modifier.isStatic(f.getModifiers());
                fields += fixed ? 0 : 1;
                Due.holds("5 " + f + " is final", !fixed || Modifier.isFinal(f.getModifiers()));
            }
            Due.holds("11 twenty fields at most in " + c, fields <= 20);
            for (Method m : c.getDeclaredMethods()) {
                Due.holds("11 seven parameters at most: " + m, m.getParameterCount() <= 7);
                Due.holds("1 no name of the face: " + m, !inside || FACE.stream()
                        .noneMatch(f -> f.contains(" " + m.getName() + "(")));
            }
        }
    }

    private static void source(String text) {
        String code = text.replaceAll("(?s)/\\*.*?\\*/", "").replaceAll("//[^\n]*", "")
                .replaceAll("\"[^\"\n]*\"", "\"\"");
        for (String word : RULED_OUT) {
            Due.holds("no " + word, !Pattern.compile("\\b" + Pattern.quote(word) + "\\b")
                    .matcher(code).find());
        }
        Due.holds("no lambda", !code.contains("->"));
        Due.holds("no method reference", !code.contains("::"));
        Due.holds("none that ends in Exact", !code.contains("Exact"));
        Due.holds("no static block", !Pattern.compile("static\\s*\\{").matcher(code).find());
        Due.holds("signs 1 to 127 alone", text.chars().allMatch(c -> c > 0 && c < 128));
        String[] lines = code.split("\n");
        for (String line : lines) {
            // Fields alone make objects, so a run makes none but in constructors.
            Due.holds("12 made in no method: " + line.strip(), !line.contains("new ")
                    || line.matches("\\s*private (final )?\\S+ \\w+ = new .*;"));
        }
        Matcher method = Pattern.compile("(?m)^( +)(?:public|private)[^=;]*\\)[^;]*\\{$")
                .matcher(code);
        int methods = 0;
        while (method.find()) {
            methods++;
            int end = code.indexOf("\n" + method.group(1) + "}", method.end());
            String body = code.substring(method.start(), end);
            Due.holds("11 sixty lines at most: " + method.group().strip(),
                    body.split("\n").length <= 60);
        }
        Due.holds("methods were looked at", methods > FACE.size());
    }
}
