import java.io.IOException;
import java.lang.reflect.Constructor;
import java.lang.reflect.Executable;
import java.lang.reflect.Field;
import java.lang.reflect.Method;
import java.lang.reflect.Modifier;
import java.nio.charset.StandardCharsets;
import java.nio.file.Files;
import java.nio.file.Path;
import java.util.ArrayList;
import java.util.HashSet;
import java.util.List;
import java.util.Set;
import java.util.regex.Matcher;
import java.util.regex.Pattern;

/** LANGUAGE.md, as far as the file's text and the compiled class show whether it is kept. */
public final class LanguageTest {
    private static final Path FILE = Path.of("src/main/java/FerryDeck.java");

    private static final int MOST_PARAMETERS = 7, MOST_LINES = 60, MOST_CLASSES = 12, MOST_FIELDS = 20;

    private static final Set<String> IMPORTS = Set.of(
        "java.util.ArrayList", "java.util.List", "java.util.Iterator", "java.util.Arrays");

    /** Words, and signs of lambdas and method references, by the rule that forbids them. */
    private static final String[][] FORBIDDEN = {
        {"rule 1", "\\bpackage\\b"},
        {"rule 2", "->"},
        {"rule 2", "::"},
        {"rule 4", "\\w+Exact\\b"},
        {"rule 4", "\\bSystem\\b(?!\\.arraycopy\\b)"},
        {"rule 5", "\\bstatic\\s*\\{"},
        {"rule 6", "\\b(throw|throws|try|catch|finally|synchronized|assert)\\b"},
        {"rule 6", "\\b(equals|hashCode|toString)\\s*\\("},
        {"rule 13", "\\b(Thread|Random|Runtime|Process|volatile|native|transient)\\b"},
    };

    /** A method or constructor: a line that ends with ") {" and begins with no word of a statement. */
    private static final Pattern METHOD_HEAD = Pattern.compile(
        "^ ++(?!(if|for|while|switch|else|do|return)\\b|\\})[^=;{}()]+\\([^;{}()]*\\) \\{$", Pattern.MULTILINE);

    private static final Set<Class<?>> NUMBERS = Set.of(
        int.class, long.class, short.class, byte.class, char.class, boolean.class, double.class, float.class);

    private static final Set<Class<?>> STATIC_TYPES = Set.of(
        int.class, long.class, boolean.class, char.class, String.class,
        int[].class, long[].class, char[].class, byte[].class);

    private final List<String> broken = new ArrayList<>();

    public static void main(String[] args) throws IOException {
        LanguageTest test = new LanguageTest();
        String text = withoutComments(Files.readString(FILE, StandardCharsets.ISO_8859_1));
        test.words(text);
        test.imports(text);
        Class<?>[] all = FerryDeck.class.getNestMembers();
        test.classes(all);
        test.lengthsOfMethods(text, methodsOf(all));
        test.broken.forEach(System.out::println);
        if (!test.broken.isEmpty()) {
            System.exit(1);
        }
    }

    /** The lines stay, so that they can be counted and told. */
    private static String withoutComments(String text) {
        Matcher comment = Pattern.compile("/\\*.*?\\*/|//[^\\n]*", Pattern.DOTALL).matcher(text);
        return comment.replaceAll(found -> found.group().replaceAll("[^\\n]", ""));
    }

    private static long lineOf(String text, int at) {
        return 1 + text.substring(0, at).chars().filter(c -> c == '\n').count();
    }

    private void words(String text) {
        for (String[] rule : FORBIDDEN) {
            Matcher found = Pattern.compile(rule[1]).matcher(text);
            while (found.find()) {
                broken.add(rule[0] + ": " + found.group() + " in line " + lineOf(text, found.start()));
            }
        }
    }

    private void imports(String text) {
        Matcher found = Pattern.compile("\\bimport\\s+([^;]+);").matcher(text);
        while (found.find()) {
            if (!IMPORTS.contains(found.group(1).strip())) {
                broken.add("rule 4: " + found.group());
            }
        }
    }

    private void lengthsOfMethods(String text, int least) {
        Matcher found = METHOD_HEAD.matcher(text);
        int heads = 0;
        while (found.find()) {
            heads++;
            long lines = lineOf(text, endOfBlock(text, found.end() - 1)) - lineOf(text, found.start()) + 1;
            if (lines > MOST_LINES) {
                broken.add("rule 11: " + lines + " lines: " + found.group().strip());
            }
        }
        if (heads < least) {
            broken.add("the test finds " + heads + " methods in the text, but there are " + least);
        }
    }

    private static int methodsOf(Class<?>[] all) {
        int many = 0;
        for (Class<?> c : all) {
            many += c.getDeclaredMethods().length;
        }
        return many;
    }

    private static int endOfBlock(String text, int open) {
        int depth = 0;
        for (int i = open; i < text.length(); i++) {
            depth += text.charAt(i) == '{' ? 1 : text.charAt(i) == '}' ? -1 : 0;
            if (depth == 0) {
                return i;
            }
        }
        return text.length() - 1;
    }

    private void classes(Class<?>[] all) {
        Set<Class<?>> own = Set.of(all);
        if (all.length > MOST_CLASSES) {
            broken.add("rule 11: " + all.length + " classes");
        }
        Set<String> face = new HashSet<>();
        for (Method m : FerryDeck.class.getDeclaredMethods()) {
            if (Modifier.isPublic(m.getModifiers())) {
                face.add(m.getName());
            }
        }
        for (Class<?> c : all) {
            if (c != FerryDeck.class) {
                classInside(c);
            }
            methods(c, face);
            fields(c, own);
        }
    }

    private void classInside(Class<?> c) {
        int modifiers = c.getModifiers();
        if (!c.isMemberClass() || !Modifier.isStatic(modifiers)) {
            broken.add("rule 2: " + c.getName() + " is no static nested class");
        }
        if (Modifier.isPublic(modifiers) || Modifier.isProtected(modifiers)) {
            broken.add("rule 1: " + c.getName() + " is not private or package-visible");
        }
    }

    private void methods(Class<?> c, Set<String> face) {
        for (Constructor<?> made : c.getDeclaredConstructors()) {
            parameters(made);
        }
        for (Method m : c.getDeclaredMethods()) {
            parameters(m);
            boolean ofTheFace = c == FerryDeck.class && Modifier.isPublic(m.getModifiers());
            if (!ofTheFace && face.contains(m.getName())) {
                broken.add("rule 1: " + m + " bears the name of a public method");
            }
        }
    }

    private void parameters(Executable e) {
        if (e.getParameterCount() > MOST_PARAMETERS) {
            broken.add("rule 11: " + e + " takes more than " + MOST_PARAMETERS + " parameters");
        }
    }

    private void fields(Class<?> c, Set<Class<?>> own) {
        int beside = 0;
        for (Field f : c.getDeclaredFields()) {
            if (Modifier.isStatic(f.getModifiers())) {
                if (!Modifier.isFinal(f.getModifiers()) || !STATIC_TYPES.contains(f.getType())) {
                    broken.add("rule 5: " + f);
                }
                continue;
            }
            beside++;
            if (!isAllowed(f.getType(), own)) {
                broken.add("rule 3: " + f);
            }
        }
        if (beside > MOST_FIELDS) {
            broken.add("rule 11: " + c.getName() + " has " + beside + " fields");
        }
    }

    /** Numbers and own classes, arrays of one dimension of these, and of two dimensions of numbers. */
    private static boolean isAllowed(Class<?> type, Set<Class<?>> own) {
        if (!type.isArray()) {
            return NUMBERS.contains(type) || own.contains(type);
        }
        Class<?> of = type.getComponentType();
        return NUMBERS.contains(of) || own.contains(of) || of.isArray() && NUMBERS.contains(of.getComponentType());
    }
}
