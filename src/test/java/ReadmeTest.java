import java.io.IOException;
import java.lang.reflect.Method;
import java.nio.file.Files;
import java.nio.file.Path;
import java.util.List;
import java.util.regex.Matcher;
import java.util.regex.Pattern;

/** Makes the calls of README.md's example, so that what it shows cannot differ from what the class answers. */
public final class ReadmeTest {
    private static final Pattern SAID = Pattern.compile("say\\(atlas, \"(.*)\"\\);");
    private static final Pattern CALLED = Pattern.compile("atlas\\.(\\w+)\\(([-0-9, ]*)\\);\\s+// (-?\\d+)(.*)");
    private static final Pattern SHOWN = Pattern.compile(".* are \"(.*)\"");

    public static void main(String[] args) throws IOException, ReflectiveOperationException {
        OpcodeAtlas atlas = new OpcodeAtlas();
        int calls = 0;
        for (String row : example(Files.readAllLines(Path.of("README.md")))) {
            Matcher said = SAID.matcher(row);
            Matcher called = CALLED.matcher(row);
            if (said.matches()) {
                Check.type(atlas, said.group(1));
            } else if (called.matches()) {
                calls++;
                Check.due(row, call(atlas, called.group(1), called.group(2)), Integer.parseInt(called.group(3)));
                checkShown(row, atlas, called.group(4));
            } else {
                Check.due("a row of the example that is no call", row, "");
            }
        }
        Check.due("calls found in the example", calls, 13);
        Check.finish();
    }

    private static List<String> example(List<String> rows) {
        int start = rows.indexOf("OpcodeAtlas atlas = new OpcodeAtlas();") + 1;
        int length = rows.subList(start, rows.size()).indexOf("```");
        return rows.subList(start, start + length);
    }

    private static int call(OpcodeAtlas atlas, String name, String arguments) throws ReflectiveOperationException {
        String[] written = arguments.isEmpty() ? new String[0] : arguments.split(", ");
        Object[] values = new Object[written.length];
        Class<?>[] types = new Class<?>[written.length];
        for (int i = 0; i < written.length; i++) {
            values[i] = Integer.valueOf(written[i]);
            types[i] = int.class;
        }
        Method method = OpcodeAtlas.class.getMethod(name, types);
        return (Integer) method.invoke(atlas, values);
    }

    private static void checkShown(String row, OpcodeAtlas atlas, String comment) {
        Matcher shown = SHOWN.matcher(comment);
        if (shown.matches()) {
            Check.due(row, Check.writtenText(atlas), shown.group(1));
        }
    }
}
