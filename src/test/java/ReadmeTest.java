import java.lang.reflect.Method;
import java.lang.reflect.Modifier;
import java.nio.file.Files;
import java.nio.file.Path;
import java.util.List;
import java.util.regex.Matcher;
import java.util.regex.Pattern;

/** README.md holds: its examples answer what it says, and it names every call. */
public final class ReadmeTest {
    private static final Due d = new Due();
    private static final Pattern CALL = Pattern.compile("x\\.(\\w+)\\(([^)]*)\\); +// (-?\\d+): .*");
    private static final Pattern TEXT = Pattern.compile("(?:String )?text = \"([^\"]*)\";");
    private static final int EXAMPLES = 18;

    public static void main(String[] args) throws Exception {
        List<String> lines = Files.readAllLines(Path.of("README.md"));
        d.promise("README.md, examples");
        d.due("how many examples", examples(lines), EXAMPLES);
        d.promise("README.md, calls");
        calls(String.join("\n", lines));
        d.end();
    }

    private static int examples(List<String> lines) throws Exception {
        CutDeeper x = new CutDeeper();
        int count = 0;
        for (String line : lines) {
            Matcher text = TEXT.matcher(line);
            Matcher call = CALL.matcher(line);
            if (line.equals("CutDeeper x = new CutDeeper();")) {
                x = new CutDeeper();
            } else if (text.matches()) {
                feed(x, text.group(1));
            } else if (call.matches()) {
                count++;
                d.due(line, answer(x, call.group(1), call.group(2)), Long.parseLong(call.group(3)));
            }
        }
        return count;
    }

    private static void feed(CutDeeper x, String text) {
        for (int i = 0; i < text.length(); i++) {
            x.feed(text.charAt(i));
        }
    }

    private static long answer(CutDeeper x, String name, String told) throws Exception {
        String[] words = told.isEmpty() ? new String[0] : told.split(", ");
        for (Method m : CutDeeper.class.getDeclaredMethods()) {
            if (m.getName().equals(name)) {
                Object[] values = new Object[words.length];
                for (int i = 0; i < words.length; i++) {
                    boolean isNumber = m.getParameterTypes()[i] == int.class;
                    values[i] = isNumber ? (Object) Integer.valueOf(words[i]) : (Object) Boolean.valueOf(words[i]);
                }
                return ((Number) m.invoke(x, values)).longValue();
            }
        }
        throw new IllegalStateException("no call: " + name);
    }

    private static void calls(String readme) {
        String table = readme.substring(readme.indexOf("### The calls"), readme.indexOf("### What is refused"));
        for (Method m : CutDeeper.class.getDeclaredMethods()) {
            if (Modifier.isPublic(m.getModifiers())) {
                d.due(m.getName(), table.contains("`" + m.getName() + "`") ? 1 : 0, 1);
            }
        }
    }
}
