import java.io.IOException;
import java.lang.reflect.Field;
import java.lang.reflect.Modifier;
import java.nio.file.Files;
import java.nio.file.Path;
import java.util.List;
import java.util.regex.Matcher;
import java.util.regex.Pattern;

/** The rules of LANGUAGE.md, as far as the class and its text show whether they are kept; rule 1 has FaceTest. */
public final class LanguageTest {
    private static final Due DUE = new Due("LanguageTest");
    private static final Pattern COMMENT = Pattern.compile("//[^\n]*|/\\*.*?\\*/", Pattern.DOTALL);
    private static final Pattern METHOD = Pattern.compile("( +)(?:\\w+ )*(?:\\w+(?:\\[\\])? )?(\\w+)\\((.*)\\) \\{");
    private static final List<String> BRANCHES = List.of("if", "for", "while", "switch", "else");
    private static final int MOST_LINES = 60;
    private static final int MOST_PARAMETERS = 7;
    private static final int MOST_CLASSES = 12;
    private static final int MOST_FIELDS = 20;

    public static void main(String[] args) throws IOException {
        String source = Files.readString(Path.of("src/main/java/BigDesk.java"));
        String code = COMMENT.matcher(source).replaceAll("");
        hasNone(code, "rule 2: lambda or method reference", "->|::");
        hasNone(code, "rule 4: library beyond java.lang", "\\bimport\\b|\\bjava\\.");
        hasNone(code, "rule 4: a function whose name ends in Exact", "Exact\\(");
        hasNone(code, "rule 5: static initialiser", "\\bstatic \\{");
        hasNone(code, "rule 6: exception, for the document wants none", "\\b(throws?|try|catch|finally)\\b");
        hasNone(code, "rule 6: synchronized or assert", "\\b(synchronized|assert)\\b");
        hasNone(code, "rule 13: System but for arraycopy", "\\bSystem\\.(?!arraycopy\\()|\\bThread\\b");
        methods(code.split("\n"));
        classes();
        DUE.end();
    }

    private static void hasNone(String code, String what, String pattern) {
        Matcher found = Pattern.compile(pattern).matcher(code);
        DUE.is(what, "", found.find() ? found.group() : "");
    }

    private static void methods(String[] lines) {
        int count = 0;
        for (int i = 0; i < lines.length; i++) {
            Matcher header = METHOD.matcher(lines[i]);
            if (header.matches() && !BRANCHES.contains(header.group(2))) {
                count++;
                method(header, lines, i);
            }
        }
        DUE.is("methods are found", true, count > 20);
    }

    private static void method(Matcher header, String[] lines, int start) {
        String name = header.group(2);
        boolean isConstructor = Character.isUpperCase(name.charAt(0));
        int i = start;
        while (!lines[i].equals(header.group(1) + "}")) {
            boolean makes = lines[i].matches(".*\\bnew\\b.*") && !isConstructor;
            DUE.is("rule 12: an object made by" + lines[i] + " of " + name, false, makes);
            i++;
        }
        DUE.is("rule 11: " + name + " stays short", true, i - start < MOST_LINES);
        DUE.is("rule 11: parameters of " + name, true, header.group(3).split(",").length <= MOST_PARAMETERS);
    }

    private static void classes() {
        Class<?>[] inside = BigDesk.class.getDeclaredClasses();
        DUE.is("rule 11: classes", true, inside.length < MOST_CLASSES);
        fields(BigDesk.class);
        for (Class<?> each : inside) {
            int modifiers = each.getModifiers();
            DUE.is("rule 1: static " + each, true, Modifier.isStatic(modifiers));
            DUE.is("rule 1: " + each + " does not show", false,
                    Modifier.isPublic(modifiers) || Modifier.isProtected(modifiers));
            fields(each);
        }
    }

    private static void fields(Class<?> each) {
        int own = 0;
        for (Field field : each.getDeclaredFields()) {
            boolean isStatic = Modifier.isStatic(field.getModifiers());
            DUE.is("rule 5: " + field + " is final", true, !isStatic || Modifier.isFinal(field.getModifiers()));
            own += isStatic ? 0 : 1;
        }
        DUE.is("rule 11: fields of " + each, true, own <= MOST_FIELDS);
    }
}
