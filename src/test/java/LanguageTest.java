import java.io.IOException;
import java.nio.file.Files;
import java.nio.file.Path;
import java.util.Set;
import java.util.TreeSet;
import java.util.regex.Matcher;
import java.util.regex.Pattern;

/** The rules of LANGUAGE.md that can be seen from the program's text; FaceTest has rule 1. */
final class LanguageTest {
    private static final Path PROGRAM = Path.of("src/main/java/NotedVolume.java");
    private static final int MOST_CLASSES = 12;
    private static final int MOST_LINES = 60;
    private static final int MOST_PARAMETERS = 7;

    private static final Set<String> IMPORTS = Set.of(
            "java.util.ArrayList", "java.util.List", "java.util.NoSuchElementException");
    private static final Set<String> TYPES = Set.of(
            "String", "StringBuilder", "Integer", "Long", "Math", "ArrayList", "List", "System", "Arrays",
            "Iterator", "Iterable", "Comparable");
    private static final Set<String> EXCEPTIONS = Set.of(
            "IllegalStateException", "IllegalArgumentException", "IndexOutOfBoundsException",
            "ArithmeticException", "UnsupportedOperationException", "NoSuchElementException",
            "RuntimeException");

    public static void main(String[] args) throws IOException {
        String text = Files.readString(PROGRAM);
        String bare = withoutCommentsAndTexts(text);
        imports(bare);
        types(bare);
        library(bare);
        words(bare);
        exceptions(bare);
        sizes(bare);
        Check.end("LanguageTest");
    }

    /** Keeps the lines, so that the length of a method can be counted. */
    private static String withoutCommentsAndTexts(String text) {
        Matcher found = Pattern.compile("(?s)/\\*.*?\\*/|//[^\n]*|\"[^\"\n]*\"").matcher(text);
        return found.replaceAll(m -> m.group().startsWith("\"") ? "\"\"" : m.group().replaceAll("[^\n]", ""));
    }

    private static void none(String rule, String forbidden, String bare) {
        Matcher found = Pattern.compile(forbidden).matcher(bare);
        Check.sameText(rule, "nothing of it", found.find() ? found.group() : "nothing of it");
    }

    private static void imports(String bare) {
        none("no package", "\\bpackage\\b", bare);
        Matcher found = Pattern.compile("import ([^;]+);").matcher(bare);
        while (found.find()) {
            Check.yes("rule 4, import " + found.group(1), IMPORTS.contains(found.group(1)));
        }
    }

    /** Names with a small letter behind a capital are types: listed ones, or the program's own. */
    private static void types(String bare) {
        Set<String> own = new TreeSet<>();
        Matcher classes = Pattern.compile("\\b(?:class|interface|enum|record) (\\w+)").matcher(bare);
        while (classes.find()) {
            own.add(classes.group(1));
        }
        Check.yes("rule 11, classes " + own, own.size() <= MOST_CLASSES);
        Matcher found = Pattern.compile("\\b[A-Z]\\w*[a-z]\\w*").matcher(bare);
        while (found.find()) {
            String type = found.group();
            Check.yes("rule 3, type " + type,
                    own.contains(type) || TYPES.contains(type) || EXCEPTIONS.contains(type));
        }
    }

    private static void library(String bare) {
        none("rule 4, functions of Integer, Long and Math alone",
                "\\b(Integer|Long|Math)\\.\\w+(?![\\w(])", bare);
        none("rule 4, nothing that ends in Exact", "\\w+Exact\\b", bare);
        none("rule 4, System.arraycopy alone", "\\bSystem\\.(?!arraycopy\\b)\\w+", bare);
        none("rule 4, copyOf, copyOfRange and fill of Arrays alone",
                "\\bArrays\\.(?!(copyOf|copyOfRange|fill)\\b)\\w+", bare);
    }

    private static void words(String bare) {
        none("rule 2, no lambda", "->", bare);
        none("rule 2, no method reference", "::", bare);
        none("rule 3, no other types", "\\b(Object|var)\\b", bare);
        none("rule 5, no static initialiser block", "\\bstatic\\s*\\{", bare);
        none("rule 5, static fields are final", "\\bstatic (?!final\\b)[^(;{]*[=;]", bare);
        none("rule 6", "\\b(finally|synchronized|assert|getMessage|hashCode|toString|volatile)\\b", bare);
        none("rule 10, texts are not joined by +", "\"\" *\\+|\\+ *\"\"", bare);
    }

    private static void exceptions(String bare) {
        Matcher thrown = Pattern.compile("\\bthrow\\b([^;]*);").matcher(bare);
        while (thrown.find()) {
            Matcher form = Pattern.compile(" new (\\w+)\\((\"\")?\\)").matcher(thrown.group(1));
            Check.yes("rule 6, throw" + thrown.group(1),
                    form.matches() && EXCEPTIONS.contains(form.group(1)));
        }
    }

    /** A method begins with its parameters and a brace, and ends with a brace as far from the left. */
    private static void sizes(String bare) {
        Pattern method = Pattern.compile("(?m)^( +)(?!(?:if|for|while|switch|return|else|do)\\b)"
                + "[\\w<>\\[\\] ]+\\(([^()]*)\\)[\\w\\s,.]*\\{\n(?s:(.*?))\n\\1\\}");
        Matcher found = method.matcher(bare);
        int methods = 0;
        while (found.find()) {
            methods++;
            String head = found.group().trim().split("\\{")[0].trim();
            Check.yes("rule 11, lines of " + head, found.group().split("\n").length <= MOST_LINES);
            Check.yes("rule 11, parameters of " + head, found.group(2).split(",").length <= MOST_PARAMETERS);
        }
        Check.yes("methods of the face were found", methods >= 24);
    }
}
