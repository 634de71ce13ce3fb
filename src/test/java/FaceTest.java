import java.io.IOException;
import java.lang.reflect.Constructor;
import java.lang.reflect.Field;
import java.lang.reflect.Method;
import java.lang.reflect.Modifier;
import java.nio.file.Files;
import java.util.ArrayList;
import java.util.Arrays;
import java.util.HashSet;
import java.util.List;
import java.util.Set;
import java.util.TreeSet;
import java.util.regex.Matcher;
import java.util.regex.Pattern;

/** The class has the document's face and no more, and keeps to those rules of the language that can be seen. */
public final class FaceTest {
    /** Of rule 6. */
    private static final Set<String> EXCEPTIONS = Set.of("IllegalStateException", "IllegalArgumentException",
            "IndexOutOfBoundsException", "ArithmeticException", "UnsupportedOperationException",
            "NoSuchElementException", "RuntimeException");
    /** log() has to throw it by the document, though rule 6 does not list it. */
    private static final String OF_LOG = "ArrayIndexOutOfBoundsException";
    private static final int NOT_HIDDEN = Modifier.PUBLIC | Modifier.PROTECTED;

    public static void main(String[] args) throws IOException {
        face(Files.readString(Check.DOCUMENT));
        visibility();
        names();
        sizes();
        source(plain(Files.readString(Check.MAIN)));
        Check.end();
    }

    private static void face(String document) {
        int start = document.indexOf("public final class ByteFields {");
        String block = document.substring(start, document.indexOf("```", start));
        Set<String> due = new TreeSet<>();
        Matcher lines = Pattern.compile("public (int )?(\\w+)\\(([^)]*)\\)( throws [^;]*)?;").matcher(block);
        while (lines.find()) {
            String types = lines.group(3).replaceAll("(\\w+) \\w+", "$1");
            due.add((lines.group(1) == null ? "" : "int ") + lines.group(2) + "(" + types + ")"
                    + (lines.group(4) == null ? "" : lines.group(4)));
        }
        Set<String> got = new TreeSet<>();
        for (Method method : ByteFields.class.getDeclaredMethods()) {
            if (Modifier.isPublic(method.getModifiers())) {
                Check.holds(method.getName() + " is of an object", !Modifier.isStatic(method.getModifiers()));
                got.add(method.getReturnType().getSimpleName() + " " + method.getName()
                        + listed(method.getParameterTypes(), method.getExceptionTypes()));
            }
        }
        for (Constructor<?> constructor : ByteFields.class.getDeclaredConstructors()) {
            Check.holds("the constructor is public", Modifier.isPublic(constructor.getModifiers()));
            got.add("ByteFields" + listed(constructor.getParameterTypes(), constructor.getExceptionTypes()));
        }
        Check.same("the face", got, due);
        Check.same("calls and constructor", due.size(), 39);
    }

    private static String listed(Class<?>[] types, Class<?>[] exceptions) {
        return "(" + joined(types) + ")" + (exceptions.length == 0 ? "" : " throws " + joined(exceptions));
    }

    private static String joined(Class<?>[] types) {
        return String.join(", ", Arrays.stream(types).map(Class::getSimpleName).toList());
    }

    private static List<Class<?>> allClasses() {
        List<Class<?>> all = new ArrayList<>(List.of(ByteFields.class));
        all.addAll(Arrays.asList(ByteFields.class.getDeclaredClasses()));
        return all;
    }

    /** Rules 1, 2 and 5. */
    private static void visibility() {
        Check.same("NONE", ByteFields.NONE, -1);
        int modifiers = ByteFields.class.getModifiers();
        Check.holds("public and final", Modifier.isPublic(modifiers) && Modifier.isFinal(modifiers));
        for (Field field : ByteFields.class.getDeclaredFields()) {
            boolean constant = field.getName().equals("NONE") && Modifier.isPublic(field.getModifiers());
            Check.holds(field.getName() + " is hidden", constant || Modifier.isPrivate(field.getModifiers()));
        }
        for (Method method : ByteFields.class.getDeclaredMethods()) {
            Check.holds(method.getName() + " is public or private",
                    (method.getModifiers() & (Modifier.PUBLIC | Modifier.PRIVATE)) != 0);
        }
        for (Class<?> inside : ByteFields.class.getDeclaredClasses()) {
            Check.holds(inside + " is hidden", (inside.getModifiers() & NOT_HIDDEN) == 0);
        }
        for (Class<?> one : allClasses()) {
            for (Field field : one.getDeclaredFields()) {
                int flags = field.getModifiers();
                Check.holds(field + " does not change", !Modifier.isStatic(flags) || Modifier.isFinal(flags));
            }
        }
    }

    private static void names() {
        Set<String> open = new HashSet<>();
        for (Method method : ByteFields.class.getDeclaredMethods()) {
            if (Modifier.isPublic(method.getModifiers())) {
                Check.holds(method.getName() + " once", open.add(method.getName()));
            }
        }
        for (Class<?> one : allClasses()) {
            for (Method method : one.getDeclaredMethods()) {
                Check.holds(method + " has a name of its own",
                        !Modifier.isPrivate(method.getModifiers()) || !open.contains(method.getName()));
            }
        }
    }

    /** Rule 11. */
    private static void sizes() {
        Check.holds("classes", allClasses().size() <= 12);
        for (Class<?> one : allClasses()) {
            long fields = Arrays.stream(one.getDeclaredFields())
                    .filter(field -> !Modifier.isStatic(field.getModifiers())).count();
            Check.holds("fields of " + one, fields <= 20);
            for (Method method : one.getDeclaredMethods()) {
                Check.holds("parameters of " + method, method.getParameterCount() <= 7);
            }
        }
    }

    /** Without comments and texts. */
    private static String plain(String source) {
        return source.replaceAll("(?s)/\\*.*?\\*/", "").replaceAll("//[^\n]*", "").replaceAll("\"[^\"\n]*\"", "\"\"");
    }

    /** Rules 2, 4, 6 and 13. */
    private static void source(String plain) {
        String[] words = {"package", "finally", "synchronized", "assert", "\\w+Exact", "getMessage",
            "System\\.(?!arraycopy)",
            "import (?!java\\.util\\.(ArrayList|Arrays|Iterator|List|NoSuchElementException);)"};
        for (String word : words) {
            Check.holds("no " + word, counted(plain, word) == 0);
        }
        String withoutCases = plain.replaceAll("(case\\b[^;{}]*?|default\\s*)->", "");
        Check.holds("no lambda, no method reference", !withoutCases.contains("->") && !plain.contains("::"));
        Check.same("each throw is of a new one", counted(plain, "throw\\s"), counted(plain, "throw\\s+new\\s"));
        for (String name : named(plain, "throw\\s+new\\s+(\\w+)")) {
            Check.holds(name + " may be thrown", EXCEPTIONS.contains(name) || name.equals(OF_LOG));
        }
        for (String name : named(plain, "catch\\s*\\(\\s*(\\w+)")) {
            Check.holds(name + " may be caught", EXCEPTIONS.contains(name));
        }
        longestMethod(plain);
    }

    private static List<String> named(String plain, String words) {
        return Pattern.compile("\\b" + words).matcher(plain).results().map(found -> found.group(1)).toList();
    }

    private static long counted(String plain, String words) {
        return Pattern.compile("\\b" + words).matcher(plain).results().count();
    }

    private static void longestMethod(String plain) {
        int since = 0;
        for (String line : plain.split("\n")) {
            if (line.matches("( {4}| {8})\\S.*\\(.*") && !line.trim().startsWith("return")) {
                since = 0;
            }
            since++;
            if (line.matches(" {4}}| {8}}")) {
                Check.holds("a method of " + since + " lines", since <= 60);
                since = 0;
            }
        }
    }
}
