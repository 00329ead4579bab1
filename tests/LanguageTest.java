import java.io.IOException;
import java.lang.reflect.Field;
import java.lang.reflect.Modifier;
import java.nio.file.Files;
import java.nio.file.Path;
import java.util.Set;
import java.util.TreeSet;
import java.util.regex.Matcher;
import java.util.regex.Pattern;

/** Some rules of ../shared/LANGUAGE.md that can be seen in the source by its words. */
public final class LanguageTest {
    private static final Set<String> FORBIDDEN = Set.of("throw", "throws", "try", "catch", "finally", "synchronized",
        "assert", "import", "package", "float", "double", "volatile", "transient", "native", "instanceof", "System.out",
        "hashCode", "toString", "Object", "var", "yield", "protected");
    private static final Set<String> LIBRARY = Set.of("String", "Integer", "Long", "Math", "System");
    private static final Set<String> CALLS = Set.of("Integer.bitCount", "Long.compare", "Math.abs", "Math.max",
        "System.arraycopy");
    private static final int MOST_LINES = 60;

    private static int wrong = 0;

    public static void main(String[] args) throws IOException {
        String source = Files.readString(Path.of(args.length > 0 ? args[0] : "src/main/java/BoltRing.java"));
        String code = source.replaceAll("(?s)/\\*.*?\\*/", "").replaceAll("//[^\n]*", "")
                .replaceAll("\"[^\"\n]*\"", "\"\"");
        holds("a sign beyond 127", source.chars().allMatch(sign -> sign < 128));
        holds("a lambda or a method reference", !code.contains("->") && !code.contains("::"));
        for (String word : wordsOf(code, "[A-Za-z]+")) {
            holds("the word " + word, !FORBIDDEN.contains(word));
        }
        Set<String> own = wordsOf(code, "(?<=class )[A-Z]\\w+");
        for (String name : wordsOf(code, "\\b[A-Z][a-z]\\w*")) {
            holds("the class " + name, own.contains(name) || LIBRARY.contains(name));
        }
        for (String call : wordsOf(code, "\\b(Integer|Long|Math|System|String)\\.\\w+")) {
            holds("the call " + call, CALLS.contains(call));
        }
        holds("more than twelve classes", own.size() <= 12);
        methodsAreShort(code);
        fieldsAreFewAndKept(BoltRing.class);
        for (Class<?> inside : BoltRing.class.getDeclaredClasses()) {
            fieldsAreFewAndKept(inside);
        }
        if (wrong != 0) {
            System.exit(1);
        }
    }

    private static void holds(String what, boolean is) {
        if (!is) {
            wrong++;
            System.out.println("the language rules out: " + what);
        }
    }

    private static Set<String> wordsOf(String code, String pattern) {
        Set<String> words = new TreeSet<>();
        Matcher matcher = Pattern.compile(pattern).matcher(code);
        while (matcher.find()) {
            words.add(matcher.group());
        }
        return words;
    }

    /** Static fields are final constants; a class has some twenty others at most. */
    private static void fieldsAreFewAndKept(Class<?> owner) {
        int fields = 0;
        for (Field field : owner.getDeclaredFields()) {
            boolean constant = Modifier.isStatic(field.getModifiers());
            fields += constant ? 0 : 1;
            holds("static state: " + field, !constant || Modifier.isFinal(field.getModifiers())
                    && (field.getType().isPrimitive() || field.getType() == String.class));
        }
        holds("more than twenty fields: " + owner, fields <= 20);
    }

    /** A method begins with a line that ends in ') {' and no control word, and ends at its own depth. */
    private static void methodsAreShort(String code) {
        String[] lines = code.split("\n");
        for (int i = 0; i < lines.length; i++) {
            Matcher head = Pattern.compile("^( +)(?! |if|for|while|switch|\\}|else)[\\w\\[\\] ]+\\((.*)\\) \\{$").matcher(lines[i]);
            if (head.matches()) {
                int end = i;
                while (!lines[end].equals(head.group(1) + "}")) {
                    end++;
                }
                holds("a long method: " + lines[i], end - i < MOST_LINES);
                holds("more than seven parameters: " + lines[i], head.group(2).split(",").length <= 7);
            }
        }
    }
}
