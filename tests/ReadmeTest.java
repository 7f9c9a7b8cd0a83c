import java.lang.reflect.Method;
import java.nio.charset.StandardCharsets;
import java.nio.file.Files;
import java.nio.file.Path;
import java.util.TreeSet;
import java.util.regex.Matcher;
import java.util.regex.Pattern;

/** The calls that README.md tells, with the answers that it tells. Asks the project's folder. */
public final class ReadmeTest {
    private static final Pattern CALL = Pattern.compile("x\\.(\\w+)\\(([^)]*)\\); *// (-?\\d+)(:.*)?");
    private static final Pattern NAME = Pattern.compile("`(\\w+)`");

    public static void main(String[] args) throws Exception {
        if (args.length == 0) {
            System.out.println("asks the project's folder");
            System.exit(1);
        }
        String text = Files.readString(Path.of(args[0], "README.md"), StandardCharsets.UTF_8);
        answers(text);
        names(text);
        Check.end();
    }

    /** Each line of the page that begins with a call must tell an answer. */
    private static void answers(String text) throws Exception {
        WhoBowsLast x = new WhoBowsLast();
        int calls = 0;
        for (String line : text.split("\n")) {
            if (line.startsWith("x.")) {
                Matcher m = CALL.matcher(line);
                Check.dueText("the line " + line, m.matches() ? "a call with its answer" : "something else", "a call with its answer");
                if (m.matches()) {
                    Check.due(line, answer(x, m.group(1), m.group(2)), Long.parseLong(m.group(3)));
                    calls++;
                }
            }
        }
        Check.due("calls on the page", calls > 20 ? 1 : 0, 1);
    }

    private static long answer(WhoBowsLast x, String name, String arguments) throws Exception {
        String[] told = arguments.isEmpty() ? new String[0] : arguments.split(", *");
        Object[] numbers = new Object[told.length];
        for (int i = 0; i < told.length; i++) {
            numbers[i] = (int) (long) Long.decode(told[i]);
        }
        for (Method m : WhoBowsLast.class.getMethods()) {
            if (m.getName().equals(name) && m.getDeclaringClass() == WhoBowsLast.class) {
                return ((Number) m.invoke(x, numbers)).longValue();
            }
        }
        throw new IllegalArgumentException("no call " + name);
    }

    /** The page's list of calls has all of the face, and none beside it. */
    private static void names(String text) {
        TreeSet<String> face = new TreeSet<>();
        for (Method m : WhoBowsLast.class.getMethods()) {
            if (m.getDeclaringClass() == WhoBowsLast.class) {
                face.add(m.getName());
            }
        }
        TreeSet<String> listed = new TreeSet<>();
        for (String line : text.split("\n")) {
            if (line.startsWith("| `")) {
                Matcher m = NAME.matcher(line.substring(0, line.indexOf('|', 1)));
                while (m.find()) {
                    listed.add(m.group(1));
                }
            }
        }
        Check.dueText("the calls listed", listed.toString(), face.toString());
    }
}
