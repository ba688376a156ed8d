import java.io.IOException;
import java.lang.reflect.Constructor;
import java.lang.reflect.Field;
import java.lang.reflect.Method;
import java.lang.reflect.Modifier;
import java.nio.charset.StandardCharsets;
import java.nio.file.Files;
import java.nio.file.Path;
import java.util.Arrays;
import java.util.Set;
import java.util.TreeSet;
import java.util.regex.Matcher;
import java.util.regex.Pattern;

/** The face stands as the document has it, and the source keeps to what LANGUAGE.md lets a test see. */
public final class FaceTest {
    /** A sentence of the document that tells the calls of a part of the interface. */
    static final String PART = "Ahead of the calls ([^.]*) the interface says: (---- [^.]*)\\.";

    private static final Path DOCUMENT = Path.of("../shared/DOC.md");
    private static final Path SOURCE = Path.of("src/main/java/StrikeWheels.java");

    private static final String[] FORBIDDEN = {"->", "::", "Exact\\(", "\\bsynchronized\\b", "\\bassert\\b", "\\bfinally\\b",
        "\\bcatch\\b", "\\bThread\\b", "\\bRandom\\b", "currentTimeMillis", "nanoTime", "\\bFloat\\b", "\\bDouble\\b",
        "\\bstatic \\{", "\\bprotected\\b", "\\bhashCode\\b", "\\btoString\\b", "\\bordinal\\b", "\\bString\\.format",
        "^package ", "\\bbyte\\[\\]\\[", "\\bvar "};

    private FaceTest() {
    }

    public static void main(String[] args) throws IOException {
        String source = Files.readString(SOURCE, StandardCharsets.ISO_8859_1);
        sameFace(Files.readString(DOCUMENT));
        samePromises(Files.readString(DOCUMENT));
        sameParts(source);
        sourceKeepsToTheRules(source);
        methodsAreShort(source);
        namesAreApart();
        Check.close("FaceTest");
    }

    private static void sameFace(String document) {
        int from = document.indexOf("public final class StrikeWheels {");
        String face = document.substring(from, document.indexOf("```", from));
        Set<String> due = new TreeSet<>();
        for (String line : face.split("\n")) {
            String text = line.trim();
            if (text.startsWith("public ") && text.contains("(")) {
                due.add(shortened(text));
            }
        }
        Set<String> got = new TreeSet<>();
        for (Method method : StrikeWheels.class.getDeclaredMethods()) {
            if (!Modifier.isPrivate(method.getModifiers())) {
                got.add(signature(Modifier.toString(method.getModifiers()) + " " + method.getReturnType().getName()
                        + " " + method.getName(), method.getParameterTypes(), method.getExceptionTypes()));
            }
        }
        for (Constructor<?> constructor : StrikeWheels.class.getDeclaredConstructors()) {
            got.add(signature(Modifier.toString(constructor.getModifiers()) + " StrikeWheels",
                    constructor.getParameterTypes(), constructor.getExceptionTypes()));
        }
        Check.same("members of the document", due.size(), 61);
        Check.sameText("the face", got.toString(), due.toString());
        for (Field field : StrikeWheels.class.getDeclaredFields()) {
            boolean isNone = field.getName().equals("NONE");
            Check.isTrue("field " + field.getName(), isNone ? Modifier.toString(field.getModifiers())
                    .equals("public static final") : Modifier.isPrivate(field.getModifiers()));
        }
        Check.isTrue("public final", Modifier.toString(StrikeWheels.class.getModifiers()).equals("public final"));
    }

    /** The promises tell the members of the face, one by one in its order. */
    private static void samePromises(String document) {
        int from = document.indexOf("public final class StrikeWheels {");
        String face = document.substring(from, document.indexOf("```", from));
        int promise = 0;
        for (String line : face.split("\n")) {
            String text = line.trim();
            if (text.startsWith("public ") && text.contains("(")) {
                promise++;
                String member = "`" + text.substring("public ".length(), text.length() - 1) + "`:";
                Check.isTrue("promise " + promise + " is about " + member, Document.promise(promise).contains(" " + member));
            }
        }
        Check.same("promises", promise, 61);
    }

    /** Ahead of some calls the source has a comment, too, and behind it these calls alone. */
    private static void sameParts(String source) {
        Matcher part = Pattern.compile(PART).matcher(Document.whole());
        int parts = 0;
        while (part.find()) {
            parts++;
            String head = "\n    // " + part.group(2) + "\n";
            Check.same("times that the source has " + part.group(2), source.split(Pattern.quote(head), -1).length - 1, 1);
            int from = source.indexOf(head) + head.length();
            int to = source.indexOf("\n    // ----", from);
            Matcher method = Pattern.compile("\n    public [a-z]+ (\\w+)\\(").matcher(source.substring(from - 1, to));
            StringBuilder calls = new StringBuilder();
            while (method.find()) {
                calls.append(calls.length() > 0 ? ", `" : "`").append(method.group(1)).append('`');
            }
            Check.sameText("the calls behind " + part.group(2), calls.toString(), part.group(1));
        }
        Check.same("parts of the interface", parts, 7);
    }

    /** A line of the document's face without the names of its parameters. */
    private static String shortened(String line) {
        String text = line.replace(";", "");
        int open = text.indexOf('(');
        int close = text.indexOf(')');
        StringBuilder types = new StringBuilder();
        for (String parameter : text.substring(open + 1, close).split(", ")) {
            types.append(types.length() > 0 ? ", " : "").append(parameter.split(" ")[0]);
        }
        return text.substring(0, open) + "(" + types + ")" + text.substring(close + 1);
    }

    private static String signature(String head, Class<?>[] parameters, Class<?>[] exceptions) {
        String types = String.join(", ", Arrays.stream(parameters).map(Class::getSimpleName).toList());
        String thrown = String.join(", ", Arrays.stream(exceptions).map(Class::getSimpleName).toList());
        return head + "(" + types + ")" + (thrown.isEmpty() ? "" : " throws " + thrown);
    }

    private static void sourceKeepsToTheRules(String source) {
        for (String pattern : FORBIDDEN) {
            Check.isTrue("the source has no " + pattern, !Pattern.compile(pattern, Pattern.MULTILINE).matcher(source).find());
        }
        Check.isTrue("signs are 10 or 32 to 126", source.chars().allMatch(sign -> sign == 10 || sign >= 32 && sign < 127));
        int imports = source.split("\nimport |^import ", -1).length - 1;
        Check.same("imports", imports, 1);
        Check.isTrue("the import", source.startsWith("import java.util.NoSuchElementException;"));
    }

    /** Rule 11: some sixty lines a method, seven parameters, some twelve classes. */
    private static void methodsAreShort(String source) {
        Matcher method = Pattern.compile("\n( {4}| {8})\\w[^\n=;]*\\([^\n;]*\\{\n(.*?\n)\\1\\}\n", Pattern.DOTALL).matcher(source);
        int methods = 0;
        for (int at = 0; method.find(at); at = method.end() - 1) {
            methods++;
            int lines = method.group(2).split("\n").length;
            Check.isTrue(lines + " lines of " + method.group().trim().split("\n")[0], lines <= 60);
        }
        Check.isTrue("methods were found", methods > 150);
        Class<?>[] inside = StrikeWheels.class.getDeclaredClasses();
        Check.isTrue("some twelve classes at most", inside.length < 12);
        for (Class<?> type : inside) {
            for (Method declared : type.getDeclaredMethods()) {
                Check.isTrue("parameters of " + declared, declared.getParameterCount() <= 7);
            }
        }
    }

    /** Rule 1: no private method bears the name of a public one; the classes inside keep to it as well. */
    private static void namesAreApart() {
        Set<String> names = new TreeSet<>();
        for (Method method : StrikeWheels.class.getDeclaredMethods()) {
            if (Modifier.isPublic(method.getModifiers())) {
                names.add(method.getName());
            }
        }
        for (Method method : StrikeWheels.class.getDeclaredMethods()) {
            Check.isTrue("private " + method.getName(),
                    Modifier.isPublic(method.getModifiers()) || !names.contains(method.getName()));
        }
        for (Class<?> inside : StrikeWheels.class.getDeclaredClasses()) {
            Check.isTrue(inside + " is static", Modifier.isStatic(inside.getModifiers()));
            for (Method method : inside.getDeclaredMethods()) {
                Check.isTrue(inside + "." + method.getName(), !names.contains(method.getName()));
            }
            Check.isTrue(inside + " has some twenty fields at most", inside.getDeclaredFields().length <= 20);
        }
    }
}
