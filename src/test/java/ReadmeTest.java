import java.lang.reflect.Method;
import java.nio.file.Files;
import java.nio.file.Path;
import java.util.List;
import java.util.regex.Matcher;
import java.util.regex.Pattern;

/** The calls that README.md shows, made in its order: each gives the answer that stands behind it. */
public final class ReadmeTest {
    private static final Check check = new Check();
    private static final Pattern CALL = Pattern.compile("x\\.(\\w+)\\(([^()]*)\\); *// (-?\\d+)(: .*)?");

    public static void main(String[] args) throws Exception {
        List<String> lines = Files.readAllLines(Path.of("README.md"));
        WorkEnds x = null;
        boolean java = false;
        int calls = 0;
        for (String line : lines) {
            if (line.startsWith("```")) {
                java = line.equals("```java");
            } else if (java && line.equals("WorkEnds x = new WorkEnds();")) {
                x = new WorkEnds();
            } else if (java) {
                Matcher m = CALL.matcher(line);
                check.holds("a call with its answer: " + line, m.matches());
                calls++;
                check.due(line, call(x, m.group(1), m.group(2)), Integer.parseInt(m.group(3)));
            }
        }
        check.holds("calls are shown", calls > 30);
        tapeIsText(String.join("\n", lines));
        check.end();
    }

    private static int call(WorkEnds x, String name, String list) throws Exception {
        String[] parts = list.isEmpty() ? new String[0] : list.split(", ");
        Class<?>[] types = new Class<?>[parts.length];
        Object[] values = new Object[parts.length];
        for (int i = 0; i < parts.length; i++) {
            types[i] = int.class;
            values[i] = Integer.decode(parts[i]);
        }
        Method method = WorkEnds.class.getMethod(name, types);
        return (int) method.invoke(x, values);
    }

    /** What feed() is given is the text that stands behind it. */
    private static void tapeIsText(String all) {
        Matcher m = Pattern.compile("x\\.feed\\(([^()]*)\\); *// \\d+: \"([^\"]*)\"").matcher(all);
        int found = 0;
        while (m.find()) {
            found++;
            String[] parts = m.group(1).split(", ");
            for (int i = 0; i < 5; i++) {
                check.due("feed of \"" + m.group(2) + "\"", Integer.decode(parts[i]), Texts.four(m.group(2), 4 * i));
            }
        }
        check.due("feeds with their text", found, 4);
    }
}
