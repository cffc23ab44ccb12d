import java.lang.reflect.InvocationTargetException;
import java.lang.reflect.Method;
import java.nio.file.Files;
import java.nio.file.Path;
import java.util.regex.Matcher;
import java.util.regex.Pattern;

/** The examples of README.md answer as they say. */
public final class ReadmeTest {
    private static final Check CHECK = new Check();
    private static final Pattern CALL = Pattern.compile("x\\.(\\w+)\\((.*?)\\);(?: +// (throws \\w+|-?\\w+).*)?");
    private static final Pattern TAPE = Pattern.compile("Check\\.tape\\(x, \"(.*)\"\\);");
    private static int examples = 0;
    private static int calls = 0;

    public static void main(String[] args) throws Exception {
        Matcher block = Pattern.compile("(?s)```java\n(.*?)```").matcher(Files.readString(Path.of("README.md")));
        while (block.find()) {
            examples++;
            run(block.group(1).split("\n"));
        }
        CHECK.due("examples", examples, 2);
        CHECK.due("calls in them", calls, 25);
        CHECK.end();
    }

    private static void run(String[] lines) throws Exception {
        CHECK.due("the first line of an example", lines[0], "StoneBacks x = new StoneBacks();");
        StoneBacks x = new StoneBacks();
        for (int i = 1; i < lines.length; i++) {
            Matcher tape = TAPE.matcher(lines[i]);
            Matcher call = CALL.matcher(lines[i]);
            if (tape.matches()) {
                Check.tape(x, tape.group(1));
            } else if (call.matches()) {
                calls++;
                String said = call.group(3) == null ? "null" : call.group(3);
                CHECK.due(lines[i], answer(x, call.group(1), call.group(2)), said);
            } else {
                CHECK.due("a line that can be run: " + lines[i], false, true);
            }
        }
    }

    private static String answer(StoneBacks x, String name, String told) throws Exception {
        String[] words = told.isEmpty() ? new String[0] : told.split(", ");
        Object[] arguments = new Object[words.length];
        for (int i = 0; i < words.length; i++) {
            arguments[i] = Long.decode(words[i]).intValue();
        }
        for (Method method : StoneBacks.class.getMethods()) {
            if (method.getName().equals(name)) {
                try {
                    return "" + method.invoke(x, arguments);
                } catch (InvocationTargetException e) {
                    return "throws " + e.getCause().getClass().getSimpleName();
                }
            }
        }
        return "no such method";
    }
}
