import java.io.IOException;
import java.lang.reflect.Field;
import java.lang.reflect.Method;
import java.lang.reflect.Modifier;
import java.nio.file.Files;
import java.nio.file.Path;
import java.util.ArrayList;
import java.util.List;
import java.util.Set;
import java.util.regex.Matcher;
import java.util.regex.Pattern;

/** Those rules of LANGUAGE.md that can be seen from the class and from its text. */
final class LanguageTest {
    private static final int MOST_PARAMETERS = 7;
    private static final int SOME_SIXTY = 65;
    private static final int SOME_TWELVE = 13;
    private static final int SOME_TWENTY = 22;

    public static void main(String[] args) throws IOException {
        String text = withoutComments(Files.readString(Path.of("src/main/java/TaleMachine.java")));
        List<Class<?>> classes = new ArrayList<>(List.of(TaleMachine.class));
        classes.addAll(List.of(TaleMachine.class.getDeclaredClasses()));
        insides(classes);
        staticFields(classes);
        sizes(classes);
        imports(text);
        words(text);
        thrown(text);
        lengths(text);
        Check.end();
    }

    private static String withoutComments(String text) {
        return text.replaceAll("(?s)/\\*.*?\\*/", " ").replaceAll("//[^\n]*", " ");
    }

    /** Rule 1: the classes inside are private or package-visible. */
    private static void insides(List<Class<?>> classes) {
        for (Class<?> c : classes) {
            boolean seen = Modifier.isPublic(c.getModifiers()) || Modifier.isProtected(c.getModifiers());
            Check.same(c + " is seen from outside", seen, c == TaleMachine.class);
        }
    }

    /** Rule 5: static fields are final, of a few types (or of an enum). */
    private static void staticFields(List<Class<?>> classes) {
        Set<String> types = Set.of("int", "long", "boolean", "char", "String", "int[]", "long[]", "char[]", "byte[]");
        for (Class<?> c : classes) {
            for (Field f : c.getDeclaredFields()) {
                if (Modifier.isStatic(f.getModifiers()) && !f.isSynthetic()) {
                    Check.yes(f + " is final", Modifier.isFinal(f.getModifiers()));
                    Class<?> type = f.getType().isArray() ? f.getType().getComponentType() : f.getType();
                    Check.yes(f + " has a type of rule 5", type.isEnum() || types.contains(f.getType().getSimpleName()));
                }
            }
        }
    }

    /** Rule 11: classes, fields and parameters. */
    private static void sizes(List<Class<?>> classes) {
        Check.yes("classes", classes.size() <= SOME_TWELVE);
        for (Class<?> c : classes) {
            int fields = 0;
            for (Field f : c.getDeclaredFields()) {
                fields += Modifier.isStatic(f.getModifiers()) ? 0 : 1;
            }
            Check.yes(c + ": fields", fields <= SOME_TWENTY);
            for (Method m : c.getDeclaredMethods()) {
                Check.yes(m + ": parameters", m.getParameterCount() <= MOST_PARAMETERS);
            }
        }
    }

    /** Rule 4: of the library only what stands there. */
    private static void imports(String text) {
        Set<String> known = Set.of("ArrayList", "Arrays", "Iterator", "List", "NoSuchElementException");
        Matcher matcher = Pattern.compile("(?m)^import (.*);$").matcher(text);
        while (matcher.find()) {
            Check.yes(matcher.group(), known.contains(matcher.group(1).replaceFirst("^java\\.util\\.", "")));
        }
    }

    /** Rules 1, 2, 4, 5, 6 and 13: what the text may not hold. */
    private static void words(String text) {
        String[] none = {"\\bpackage\\b", "\\bprotected\\b", "::", "\\)\\s*->", "\\bstatic\\s*\\{", "\\bsynchronized\\b",
            "\\bassert\\b", "\\bfinally\\b", "\\bgetMessage\\b", "Exact\\(", "\\bSystem\\.(?!arraycopy\\b)",
            "\\bArrays\\.(?!fill\\b|copyOf\\b|copyOfRange\\b)", "\\bThread\\b", "\\bRandom\\b", "[^\\x00-\\xFF]"};
        for (String one : none) {
            Check.no("the text holds " + one, Pattern.compile(one).matcher(text).find());
        }
    }

    /** Rule 6: throw new E() or throw new E("a written text"). */
    private static void thrown(String text) {
        Matcher matcher = Pattern.compile("\\bthrow\\b([^;]*);").matcher(text);
        while (matcher.find()) {
            Check.yes("throw" + matcher.group(1), matcher.group(1).matches("\\s+new (IllegalState|IllegalArgument|IndexOutOfBounds"
                    + "|Arithmetic|UnsupportedOperation|NoSuchElement|Runtime)Exception\\((\"[^\"]*\")?\\)"));
        }
    }

    /** Rule 11: methods stay short. A method's head stands one or two steps in and ends its line with a brace. */
    private static void lengths(String text) {
        String[] lines = text.split("\n");
        for (int i = 0; i < lines.length; i++) {
            Matcher head = Pattern.compile("^( {4}| {8})(?! )(?!.*\\b(class|interface|enum|record)\\b).*\\{$").matcher(lines[i]);
            if (head.find()) {
                int end = i;
                while (end < lines.length && !lines[end].startsWith(head.group(1) + "}")) {
                    end++;
                }
                Check.yes("lines of " + lines[i].trim(), end - i + 1 <= SOME_SIXTY);
            }
        }
    }
}
