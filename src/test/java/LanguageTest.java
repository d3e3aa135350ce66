import java.io.IOException;
import java.lang.reflect.Field;
import java.lang.reflect.Method;
import java.lang.reflect.Modifier;
import java.nio.file.Files;
import java.nio.file.Path;
import java.util.ArrayList;
import java.util.List;
import java.util.Set;
import java.util.TreeSet;
import java.util.regex.Matcher;
import java.util.regex.Pattern;

/** Those rules of LANGUAGE.md that can be seen from the class and from its text. */
final class LanguageTest {
    private static final int MOST_PARAMETERS = 7;
    private static final int MOST_LINES = 60;
    private static final int MOST_CLASSES = 12;
    private static final int MOST_FIELDS = 20;

    public static void main(String[] args) throws IOException {
        String text = Files.readString(Path.of("src/main/java/TaleMachine.java"));
        List<Class<?>> classes = new ArrayList<>(List.of(TaleMachine.class));
        classes.addAll(List.of(TaleMachine.class.getDeclaredClasses()));
        insides(classes);
        staticFields(classes);
        sizes(classes);
        imports(text);
        words(withoutComments(text));
        thrown(text);
        lengths(text);
        Check.end();
    }

    /** Rules 1 and 2: the classes inside are static and private, and hold none themselves. */
    private static void insides(List<Class<?>> classes) {
        for (Class<?> c : classes) {
            if (c != TaleMachine.class) {
                Check.yes(c + " is private", Modifier.isPrivate(c.getModifiers()));
                Check.yes(c + " is static", Modifier.isStatic(c.getModifiers()));
                Check.same(c + " holds", c.getDeclaredClasses().length, 0);
            }
        }
    }

    /** Rule 5: static fields are final, of a few types. */
    private static void staticFields(List<Class<?>> classes) {
        Set<String> types = Set.of("int", "long", "boolean", "char", "String", "int[]", "long[]", "char[]", "byte[]");
        for (Class<?> c : classes) {
            for (Field f : c.getDeclaredFields()) {
                if (Modifier.isStatic(f.getModifiers())) {
                    Check.yes(f + " is final", Modifier.isFinal(f.getModifiers()));
                    Check.yes(f + " has a type of rule 5", types.contains(f.getType().getSimpleName()));
                }
            }
        }
    }

    /** Rule 11. */
    private static void sizes(List<Class<?>> classes) {
        Check.yes("classes", classes.size() <= MOST_CLASSES);
        for (Class<?> c : classes) {
            int fields = 0;
            for (Field f : c.getDeclaredFields()) {
                fields += Modifier.isStatic(f.getModifiers()) ? 0 : 1;
            }
            Check.yes(c + ": fields", fields <= MOST_FIELDS);
            for (Method m : c.getDeclaredMethods()) {
                Check.yes(m + ": parameters", m.getParameterCount() <= MOST_PARAMETERS);
            }
        }
    }

    /** Rule 4: of the library only what stands there. */
    private static void imports(String text) {
        Set<String> seen = new TreeSet<>();
        Matcher matcher = Pattern.compile("(?m)^import (.*);$").matcher(text);
        while (matcher.find()) {
            seen.add(matcher.group(1));
        }
        Check.same("imports", seen, new TreeSet<>(Set.of("java.util.Arrays", "java.util.NoSuchElementException")));
    }

    /** Rules 2, 3, 5 and 6: what the text may not hold. */
    private static void words(String text) {
        String[] none = {"->", "::", "@", "\\bpackage\\b", "\\bprotected\\b", "\\bsynchronized\\b", "\\bassert\\b", "\\bfinally\\b",
            "\\btry\\b", "\\bcatch\\b", "\\bdouble\\b", "\\bfloat\\b", "\\bvar\\b", "\\bvolatile\\b", "\\bnative\\b", "Exact\\(",
            "static\\s*\\{", "\\bSystem\\.(?!arraycopy\\b)", "\\bArrays\\.(?!fill\\b|copyOf\\b|copyOfRange\\b)", "[^\\x00-\\x7F]"};
        for (String one : none) {
            Check.no("the text holds " + one, Pattern.compile(one).matcher(text).find());
        }
    }

    private static String withoutComments(String text) {
        return text.replaceAll("(?s)/\\*.*?\\*/", " ").replaceAll("//[^\n]*", " ");
    }

    /** Rule 6: throw new E() or throw new E("a written text"), and only what the document's face names. */
    private static void thrown(String text) {
        Matcher matcher = Pattern.compile("\\bthrow\\b([^;]*);").matcher(withoutComments(text));
        int seen = 0;
        while (matcher.find()) {
            seen++;
            Check.yes("throw" + matcher.group(1), matcher.group(1).matches(
                    " new (IllegalStateException|IllegalArgumentException|NoSuchElementException)\\((\"[a-z, ]*\")?\\)"));
        }
        Check.yes("some are thrown", seen > 0);
    }

    /** Rule 11: methods stay short. A method's head ends a line with a brace and stands one or two steps in. */
    private static void lengths(String text) {
        String[] lines = text.split("\n");
        int methods = 0;
        for (int i = 0; i < lines.length; i++) {
            Matcher head = Pattern.compile("^( {4}| {8})(?! )(?!.*\\b(class|if|for|while|switch|else)\\b).*\\{$").matcher(lines[i]);
            if (head.find()) {
                int end = i;
                while (!lines[end].equals(head.group(1) + "}") && !lines[end].equals(head.group(1) + "};")) {
                    end++;
                }
                methods++;
                Check.yes("lines of " + lines[i].trim(), end - i + 1 <= MOST_LINES);
            }
        }
        Check.yes("methods were found", methods > 60);
    }
}
