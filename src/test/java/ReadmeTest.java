import java.io.IOException;
import java.lang.reflect.Method;
import java.lang.reflect.Modifier;
import java.nio.charset.StandardCharsets;
import java.nio.file.Files;
import java.nio.file.Path;
import java.util.Set;
import java.util.TreeSet;
import java.util.regex.Matcher;
import java.util.regex.Pattern;

/** What README.md shows of the class's use answers as README.md says, and each call is shown there. */
public final class ReadmeTest {
    private static final String BEGIN = "```java";
    private static final String END = "```";
    private static final String NEW_DESK = "MaskDesk desk = new MaskDesk();";

    /** desk.name(1, -2); // answer, or answer: what it means. */
    private static final Pattern CALL = Pattern.compile(
        "desk\\.(\\w+)\\(((?:-?\\d+(?:, -?\\d+)*)?)\\);\\s+// (true|false|NONE|-?\\d+)(?:: .+)?");

    private static final Expect expect = new Expect("ReadmeTest");
    private static final Set<String> shown = new TreeSet<>();

    private static MaskDesk desk;
    private static int calls;

    public static void main(String[] args) throws IOException, ReflectiveOperationException {
        boolean within = false;
        for (String line : Files.readAllLines(Path.of("README.md"), StandardCharsets.UTF_8)) {
            if (within && !line.equals(END)) {
                follow(line);
            } else if (within || line.equals(BEGIN)) {
                within = !within;
                desk = null;
            }
        }
        expect.no("README.md ends within an example", within);
        for (Method method : MaskDesk.class.getDeclaredMethods()) {
            if (Modifier.isPublic(method.getModifiers())) {
                expect.yes("README.md shows " + method.getName(), shown.contains(method.getName()));
            }
        }
        expect.finish();
    }

    private static void follow(String line) throws ReflectiveOperationException {
        Matcher call = CALL.matcher(line);
        if (line.equals(NEW_DESK)) {
            desk = new MaskDesk();
            calls = 0;
        } else if (desk != null && call.matches()) {
            calls++;
            expect.yes("README.md keeps to 512 calls", calls <= 512);
            shown.add(call.group(1));
            String answer = answer(call.group(1), call.group(2));
            String due = call.group(3).replace("NONE", String.valueOf(MaskDesk.NONE));
            expect.yes("README.md: " + line + ": the desk's answer is " + answer, answer.equals(due));
        } else {
            expect.yes("README.md: this line is no call with its answer: " + line, false);
        }
    }

    private static String answer(String name, String list) throws ReflectiveOperationException {
        String[] texts = list.isEmpty() ? new String[0] : list.split(", ");
        Class<?>[] types = new Class<?>[texts.length];
        Object[] values = new Object[texts.length];
        for (int i = 0; i < texts.length; i++) {
            types[i] = int.class;
            values[i] = Integer.valueOf(texts[i]);
        }
        return String.valueOf(MaskDesk.class.getMethod(name, types).invoke(desk, values));
    }
}
