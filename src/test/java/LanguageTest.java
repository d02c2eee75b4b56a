import java.io.IOException;
import java.lang.reflect.Array;
import java.lang.reflect.Field;
import java.lang.reflect.Method;
import java.lang.reflect.Modifier;
import java.nio.file.Files;
import java.util.ArrayList;
import java.util.Arrays;
import java.util.IdentityHashMap;
import java.util.List;
import java.util.Map;
import java.util.Set;
import java.util.regex.Matcher;
import java.util.regex.Pattern;

/** ../shared/LANGUAGE.md, so far as it can be seen from the source and from the class; and how much room an object takes. */
public final class LanguageTest {
    private static final Check CHECK = new Check("LanguageTest");

    public static void main(String[] args) throws IOException, IllegalAccessException {
        String source = Files.readString(Check.project().resolve("src/main/java/CableElection.java"));
        String code = codeAlone(source);
        imports(code);
        forbiddenWords(code);
        libraryCalls(code);
        methodLengths(code);
        madeInConstructorsAlone(code);
        List<Class<?>> all = new ArrayList<>(List.of(CableElection.class));
        all.addAll(Arrays.asList(CableElection.class.getDeclaredClasses()));
        CHECK.due("rule 11: classes, twelve at most", Math.max(all.size(), 12), 12);
        for (Class<?> one : all) {
            fields(one);
            parameters(one);
        }
        room();
        CHECK.close();
    }

    /** Comments and what stands in texts and signs is gone, line by line. */
    private static String codeAlone(String source) {
        String code = Pattern.compile("/\\*.*?\\*/", Pattern.DOTALL).matcher(source)
            .replaceAll(comment -> "\n".repeat((int) comment.group().chars().filter(c -> c == '\n').count()));
        return code.replaceAll("//[^\n]*", "").replaceAll("\"[^\"\n]*\"", "\"\"").replaceAll("'[^'\n]'", "' '");
    }

    private static void found(String rule, String code, String pattern) {
        Matcher m = Pattern.compile(pattern).matcher(code);
        while (m.find()) {
            long line = code.substring(0, m.start()).chars().filter(c -> c == '\n').count() + 1;
            CHECK.due(rule + ": '" + m.group() + "' in line " + line, 1, 0);
        }
        CHECK.due(rule, 0, 0);
    }

    private static void imports(String code) {
        found("no package", code, "(?m)^\\s*package\\b.*");
        found("rule 4, imports", code, "import (?!java\\.util\\.(ArrayList|Arrays|Iterator|List);).*");
        found("rule 4, names with a package", code.replaceAll("import .*", ""), "\\bjava\\.\\w+");
    }

    private static void forbiddenWords(String code) {
        found("rule 6", code, "\\b(throw|throws|try|catch|finally|synchronized|assert|hashCode|toString)\\b");
        found("rule 2, lambdas and references", code, "->|::");
        found("rule 5, initialiser blocks", code, "\\bstatic\\s*\\{");
        found("other words", code, "\\b(var|volatile|transient|native|strictfp|goto|@\\w+)\\b");
        found("rule 10, texts joined by +", code, "\"\"\\s*\\+|\\+\\s*\"\"");
        found("rule 9, loops without an end", code, "while \\(true\\)|for \\(;;\\)");
    }

    private static void libraryCalls(String code) {
        found("rule 4, System", code, "\\bSystem\\.(?!arraycopy\\b)\\w+");
        found("rule 4, Arrays", code, "\\bArrays\\.(?!copyOf\\b|copyOfRange\\b|fill\\b)\\w+");
        found("rule 4, Exact", code, "\\w+Exact\\b");
        found("rule 4, Math", code, "\\bMath\\.(?!abs\\b|max\\b|min\\b|floorDiv\\b|floorMod\\b)\\w+");
        found("rule 13", code, "\\b(Thread|Runtime|Process\\w*|Random|Class|Object)\\b");
    }

    /** Rule 11: "some sixty lines": by this file's own way to lay out a method, its last brace stands below its first letter. */
    private static void methodLengths(String code) {
        String[] lines = code.split("\n", -1);
        for (int i = 0; i < lines.length; i++) {
            if (lines[i].matches("\\s+[\\w\\[\\] ]*\\w+\\([\\w\\[\\], ]*\\) \\{")) {
                String end = lines[i].replaceAll("\\S.*", "") + "}";
                int length = 1;
                while (i + length < lines.length && !lines[i + length].equals(end)) {
                    length++;
                }
                CHECK.due("rule 11: lines of " + lines[i].strip(), Math.max(length + 1, 60), 60);
            }
        }
    }

    /** README: "calls make nothing": new stands with a field, or in the constructor of the whole. */
    private static void madeInConstructorsAlone(String code) {
        int from = code.indexOf("public CableElection() {");
        int to = code.indexOf("}", from);
        CHECK.due("the constructor is found", from > 0 && to > from ? 1 : 0, 1);
        String rest = code.substring(0, from) + code.substring(from, to).replaceAll("[^\n]", "") + code.substring(to);
        found("made by a call", rest.replaceAll("(?m)^ {8}(private )?final [\\w\\[\\]]+ \\w+ = new [^;]*;", ""), "\\bnew\\b.*");
        found("made by a call", rest, "\\.(clone|toCharArray|substring|copyOf|copyOfRange)\\(");
    }

    private static void fields(Class<?> one) {
        int own = 0;
        for (Field f : one.getDeclaredFields()) {
            if (Modifier.isStatic(f.getModifiers())) {
                CHECK.due("rule 5: " + f + " is final", Modifier.isFinal(f.getModifiers()) ? 1 : 0, 1);
                CHECK.due("rule 5: " + f, Set.of("int", "long", "boolean", "char", "String", "int[]", "long[]", "char[]", "byte[]")
                    .contains(f.getType().getSimpleName()) ? 1 : 0, 1);
            } else {
                own++;
            }
        }
        CHECK.due("rule 11: fields of " + one, Math.max(own, 20), 20);
    }

    private static void parameters(Class<?> one) {
        for (Method m : one.getDeclaredMethods()) {
            CHECK.due("rule 11: parameters of " + m, Math.max(m.getParameterCount(), 7), 7);
        }
    }

    /** README: how much one object makes. A room of 600,000 objects and 7.3 million elements holds thousands of them. */
    private static void room() throws IllegalAccessException {
        Map<Object, Boolean> seen = new IdentityHashMap<>();
        CHECK.due("fields and elements, 2,000 at most", Math.max(elements(new CableElection(), seen), 2000), 2000);
        CHECK.due("objects and arrays, 100 at most", Math.max(seen.size(), 100), 100);
    }

    private static int elements(Object object, Map<Object, Boolean> seen) throws IllegalAccessException {
        if (object == null || seen.put(object, true) != null) {
            return 0;
        }
        if (object.getClass().isArray()) {
            CHECK.due("an array of numbers", object.getClass().getComponentType().isPrimitive() ? 1 : 0, 1);
            return Array.getLength(object);
        }
        int sum = 0;
        for (Field f : object.getClass().getDeclaredFields()) {
            if (!Modifier.isStatic(f.getModifiers())) {
                f.setAccessible(true);
                sum += 1 + (f.getType().isPrimitive() ? 0 : elements(f.get(object), seen));
            }
        }
        return sum;
    }
}
