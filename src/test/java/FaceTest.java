import java.lang.reflect.Constructor;
import java.lang.reflect.Field;
import java.lang.reflect.Method;
import java.lang.reflect.Modifier;
import java.nio.file.Files;
import java.nio.file.Path;
import java.util.ArrayList;
import java.util.List;
import java.util.Set;
import java.util.TreeSet;
import java.util.regex.Matcher;
import java.util.regex.Pattern;

/** The face is the document's, and the file keeps to the rules of LANGUAGE.md that can be looked up simply. */
public final class FaceTest {
    private static final Check CHECK = new Check();
    private static final int MOST_METHOD_LINES = 60;

    public static void main(String[] args) throws Exception {
        face();
        namesAreNotUsedTwice();
        statics();
        source();
        CHECK.end();
    }

    /** Rule 1: what is public is what the document shows, exceptions and all; nothing else is seen from outside. */
    private static void face() throws Exception {
        Set<String> wanted = new TreeSet<>();
        Matcher m = Pattern.compile("public (?:static )?(\\w+) (\\w+)\\(([^)]*)\\)(?: throws ([^;]*))?;")
                .matcher(Files.readString(Path.of("../shared/DOC.md")));
        while (m.find()) {
            String types = m.group(3).replaceAll("(\\w+) \\w+", "$1");
            wanted.add(m.group(1) + " " + m.group(2) + "(" + types + ")" + (m.group(4) == null ? "" : " " + m.group(4)));
        }
        Set<String> got = new TreeSet<>();
        for (Method method : StoneBacks.class.getDeclaredMethods()) {
            if (Modifier.isPublic(method.getModifiers())) {
                got.add(method.getReturnType().getSimpleName() + " " + method.getName()
                        + "(" + names(method.getParameterTypes()) + ")"
                        + (method.getExceptionTypes().length == 0 ? "" : " " + names(method.getExceptionTypes())));
            } else {
                CHECK.due(method + " is private", Modifier.isPrivate(method.getModifiers()), true);
            }
        }
        CHECK.due("methods of the document", wanted.size(), 46);
        if (!got.equals(wanted)) {
            System.out.println("the document: " + wanted + "\nthe class: " + got);
        }
        CHECK.due("the face is the document's", got.equals(wanted), true);
        CHECK.due("public and final", StoneBacks.class.getModifiers(), Modifier.PUBLIC | Modifier.FINAL);
        Constructor<?>[] constructors = StoneBacks.class.getDeclaredConstructors();
        CHECK.due("one constructor", constructors.length, 1);
        CHECK.due("public", constructors[0].getModifiers(), Modifier.PUBLIC);
        for (Field field : StoneBacks.class.getDeclaredFields()) {
            CHECK.due(field.getName() + " is private, but NONE",
                    Modifier.isPrivate(field.getModifiers()) != field.getName().equals("NONE"), true);
        }
    }

    private static String names(Class<?>[] types) {
        List<String> names = new ArrayList<>();
        for (Class<?> type : types) {
            names.add(type.getSimpleName());
        }
        return String.join(", ", names);
    }

    private static List<Class<?>> classes() {
        List<Class<?>> all = new ArrayList<>();
        all.add(StoneBacks.class);
        for (Class<?> inside : StoneBacks.class.getDeclaredClasses()) {
            all.add(inside);
        }
        return all;
    }

    private static void namesAreNotUsedTwice() {
        Set<String> face = new TreeSet<>();
        for (Method method : StoneBacks.class.getDeclaredMethods()) {
            if (Modifier.isPublic(method.getModifiers())) {
                face.add(method.getName());
            }
        }
        for (Class<?> one : classes()) {
            for (Method method : one.getDeclaredMethods()) {
                boolean isFace = one == StoneBacks.class && Modifier.isPublic(method.getModifiers());
                CHECK.due(method + " has a name of its own", isFace || !face.contains(method.getName()), true);
                CHECK.due(method + " has seven parameters at most", method.getParameterCount() <= 7, true);
            }
        }
    }

    private static void statics() {
        CHECK.due("twelve classes at most", classes().size() <= 12, true);
        for (Class<?> one : classes()) {
            CHECK.due(one + " is static", one == StoneBacks.class || Modifier.isStatic(one.getModifiers()), true);
            int fields = 0;
            for (Field field : one.getDeclaredFields()) {
                if (Modifier.isStatic(field.getModifiers())) {
                    CHECK.due(field + " is final", Modifier.isFinal(field.getModifiers()), true);
                } else {
                    fields++;
                }
            }
            CHECK.due(one + " has twenty fields at most", fields <= 20, true);
        }
    }

    private static void source() throws Exception {
        String text = Files.readString(Path.of("src/main/java/StoneBacks.java"));
        String code = text.replaceAll("(?s)/\\*.*?\\*/", "").replaceAll("//[^\n]*", "").replaceAll("\"[^\"\n]*\"", "\"\"");
        for (String word : new String[] {"package", "try", "catch", "finally", "synchronized", "assert", "instanceof",
            "static\\s*\\{", "->", "::", "double", "float", "equals\\(", "hashCode", "toString", "Exact\\(", "ordinal",
            "\\bvar\\b", "protected", "System\\.(?!arraycopy)", "Random", "Thread"}) {
            String bounded = word.matches("[a-z]+") ? "\\b" + word + "\\b" : word;
            CHECK.due("no " + word, Pattern.compile(bounded).matcher(code).find(), false);
        }
        Matcher imports = Pattern.compile("import ([\\w.]+);").matcher(code);
        while (imports.find()) {
            CHECK.due("import " + imports.group(1), imports.group(1).equals("java.util.NoSuchElementException"), true);
        }
        for (int i = 0; i < text.length(); i++) {
            if (text.charAt(i) > 127) {
                CHECK.due("a sign above 127 at " + i, true, false);
            }
        }
        methodLengths(text.split("\n"));
    }

    /** A method begins with a line that ends with { at a depth of its class, and ends with the } of the same depth. */
    private static void methodLengths(String[] lines) {
        for (int i = 0; i < lines.length; i++) {
            String indent = lines[i].replaceAll("\\S.*", "");
            if ((indent.length() == 4 || indent.length() == 8) && lines[i].matches(".*\\).*\\{") && !lines[i].contains("class ")) {
                int end = i;
                while (end < lines.length && !lines[end].equals(indent + "}")) {
                    end++;
                }
                CHECK.due("short enough: " + lines[i].trim(), end - i < MOST_METHOD_LINES, true);
            }
        }
    }
}
