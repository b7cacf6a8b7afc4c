import java.io.IOException;
import java.lang.reflect.Method;
import java.nio.file.Files;
import java.nio.file.Path;
import java.util.Arrays;
import java.util.Set;
import java.util.TreeSet;
import java.util.regex.Matcher;
import java.util.regex.Pattern;

/** The run of calls in README.md answers what stands beside each call, and names every call of the face. */
public final class ReadmeTest {
    // The name, the arguments and, if the call answers something, the answer.
    private static final Pattern CALL =
            Pattern.compile("rounds\\.(\\w+)\\(([-0-9, ]*)\\); +// (?:(\\d+|true|false): )?.+");
    private static final String FIRST_LINE = "FolderRounds rounds = new FolderRounds();";

    private final Check check = new Check("ReadmeTest");
    private final FolderRounds rounds = new FolderRounds();
    private final Set<String> named = new TreeSet<>();

    public static void main(String[] args) throws IOException, ReflectiveOperationException {
        ReadmeTest test = new ReadmeTest();
        String behind = Files.readString(Path.of("README.md")).split("```java\n")[1];
        String[] lines = behind.split("\n```")[0].split("\n");
        test.check.due("first line", lines[0], FIRST_LINE);
        for (int i = 1; i < lines.length; i++) {
            test.compare(lines[i]);
        }
        test.allAreNamed();
        test.check.end();
    }

    private void compare(String line) throws ReflectiveOperationException {
        Matcher parts = CALL.matcher(line);
        if (!parts.matches()) {
            check.due("a call stands in: " + line, false, true);
            return;
        }
        named.add(parts.group(1));
        Object[] arguments = Arrays.stream(parts.group(2).split(", ")).filter(text -> !text.isEmpty())
                .map(Integer::valueOf).toArray();
        Class<?>[] types = new Class<?>[arguments.length];
        Arrays.fill(types, int.class);
        Object got = FolderRounds.class.getMethod(parts.group(1), types).invoke(rounds, arguments);
        check.due(line, got == null ? null : got.toString(), parts.group(3));
    }

    private void allAreNamed() {
        Set<String> face = new TreeSet<>();
        for (Method method : FolderRounds.class.getMethods()) {
            if (method.getDeclaringClass() == FolderRounds.class) {
                face.add(method.getName());
            }
        }
        check.due("calls that are named", named, face);
    }
}
