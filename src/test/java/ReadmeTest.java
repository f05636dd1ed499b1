import java.lang.reflect.Method;
import java.nio.file.Files;
import java.nio.file.Path;
import java.util.regex.Matcher;
import java.util.regex.Pattern;

/** Each call that README.md shows answers as README.md says, so that it can't grow old. */
final class ReadmeTest {
    private static final Pattern SHOWN = Pattern.compile("x\\.(\\w+)\\(([-0-9, ]*)\\); +// (-?\\d+): .+");

    public static void main(String[] args) throws Exception {
        String[] lines = example(Files.readString(Path.of("README.md"))).split("\n");
        Due.holds("it begins with a new object: " + lines[0], lines[0].equals("MachineWalks x = new MachineWalks();"));
        Due.holds("it shows calls", lines.length > 20);
        MachineWalks x = new MachineWalks();
        for (int i = 1; i < lines.length; i++) ask(x, lines[i]);
        Due.end();
    }

    private static String example(String page) {
        String lead = "```java\n";
        int begin = page.indexOf(lead) + lead.length();
        return page.substring(begin, page.indexOf("```", begin));
    }

    private static void ask(MachineWalks x, String line) throws Exception {
        Matcher shown = SHOWN.matcher(line);
        boolean isCall = shown.matches();
        Due.holds("a call with its answer: " + line, isCall);
        if (isCall) Due.due(line, answer(x, shown.group(1), shown.group(2)), Long.parseLong(shown.group(3)));
    }

    private static long answer(MachineWalks x, String name, String told) throws Exception {
        String[] numbers = told.isEmpty() ? new String[0] : told.split(", ");
        for (Method m : MachineWalks.class.getMethods()) {
            Class<?>[] types = m.getParameterTypes();
            if (!m.getName().equals(name) || types.length != numbers.length) continue;
            Object[] given = new Object[types.length];
            for (int i = 0; i < types.length; i++) {
                if (types[i] == long.class) given[i] = Long.valueOf(numbers[i]);
                else given[i] = Integer.valueOf(numbers[i]);
            }
            return ((Number) m.invoke(x, given)).longValue();
        }
        throw new AssertionError("no call " + name + "(" + told + ")");
    }
}
