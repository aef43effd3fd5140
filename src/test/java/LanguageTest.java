import java.lang.reflect.Field;
import java.lang.reflect.Method;
import java.lang.reflect.Modifier;
import java.nio.file.Files;
import java.nio.file.Path;
import java.util.Set;
import java.util.TreeSet;
import java.util.regex.Matcher;
import java.util.regex.Pattern;

/** The rules of ../shared/LANGUAGE.md that can be seen from the source and from the class itself. */
public final class LanguageTest {
    private static final Due d = new Due();
    private static final Set<String> LIBRARY = Set.of("System.arraycopy", "Arrays.fill", "Integer.bitCount", "Math.max",
        "Math.min");
    private static final String FACE = "row set copy element holds show says ask key lock asks may file feed wipe house "
        + "keyOf lockOf opens opened who wrong wrongs judge list cuts asked toOpen safe safest mended left idle together "
        + "pair unlike alike over chain ward found many use days renew mend seed image back status";

    public static void main(String[] args) throws Exception {
        String source = Files.readString(Path.of(args.length > 0 ? args[0] : "src/main/java/CutDeeper.java"));
        String code = source.replaceAll("(?s)/\\*.*?\\*/", "").replaceAll("//[^\n]*", "").replaceAll("\"[^\"\n]*\"", "\"\"");
        d.promise("LANGUAGE.md");
        face();
        words(code);
        library(code);
        names(code);
        methods(code);
        d.end();
    }

    private static void face() {
        Set<String> methods = new TreeSet<>();
        for (Method m : CutDeeper.class.getDeclaredMethods()) {
            if (!Modifier.isPrivate(m.getModifiers())) {
                d.due("public " + m.getName(), Modifier.isPublic(m.getModifiers()) ? 1 : 0, 1);
                methods.add(m.getName());
            }
        }
        d.due("just the face", methods.equals(new TreeSet<>(Set.of(FACE.split(" ")))) ? 1 : 0, 1);
        for (Field f : CutDeeper.class.getDeclaredFields()) {
            boolean open = f.getName().equals("NONE");
            d.due("field " + f.getName(), Modifier.isPrivate(f.getModifiers()) ? 0 : 1, open ? 1 : 0);
            boolean good = !Modifier.isStatic(f.getModifiers()) || Modifier.isFinal(f.getModifiers());
            d.due("static field " + f.getName(), good ? 1 : 0, 1);
        }
        for (Class<?> c : CutDeeper.class.getDeclaredClasses()) {
            d.due("class " + c.getName(), Modifier.isStatic(c.getModifiers()) ? 1 : 0, 1);
        }
        d.due("twelve classes", CutDeeper.class.getDeclaredClasses().length <= 12 ? 1 : 0, 1);
        d.due("final", Modifier.isFinal(CutDeeper.class.getModifiers()) ? 1 : 0, 1);
    }

    private static void words(String code) {
        String[] no = {"\\bthrow", "\\btry\\b", "\\bcatch\\b", "\\bassert\\b", "\\bsynchronized\\b", "->", "::", "\\bvar\\b",
            "\\bpackage\\b", "\\bstatic\\s*\\{", "\\bhashCode\\b", "\\bequals\\b", "\\btoString\\b", "\\bnull\\b"};
        for (String word : no) {
            d.due(word, Pattern.compile(word).matcher(code).find() ? 1 : 0, 0);
        }
        d.due("one import", code.split("\\bimport ").length - 1, 1);
    }

    private static void library(String code) {
        Matcher m = Pattern.compile("\\b(System|Math|Integer|Long|Arrays|String)\\.(\\w+)").matcher(code);
        while (m.find()) {
            d.due(m.group(), LIBRARY.contains(m.group()) ? 1 : 0, 1);
        }
    }

    private static void names(String code) {
        Set<String> face = Set.of(FACE.split(" "));
        Matcher m = Pattern.compile("\n +(public )?[\\w\\[\\] ]+? (\\w+)\\([^;\n]*\\) \\{").matcher(code);
        while (m.find()) {
            if (m.group(1) == null) {
                d.due("a public name for " + m.group(2), face.contains(m.group(2)) ? 1 : 0, 0);
            }
        }
    }

    /** A method ends where a line closes what its first line opened. */
    private static void methods(String code) {
        String[] lines = code.split("\n");
        for (int i = 0; i < lines.length; i++) {
            if (!lines[i].matches(" +(public |private |static )*[\\w\\[\\]]+ \\w+\\(.*\\) \\{")) {
                continue;
            }
            String indent = lines[i].replaceAll("\\S.*", "");
            int end = i;
            while (end < lines.length && !lines[end].equals(indent + "}")) {
                end++;
            }
            d.due("sixty lines at most: " + lines[i].trim(), end - i <= 60 ? 1 : 0, 1);
            d.due("seven parameters at most: " + lines[i].trim(), lines[i].split(",").length <= 7 ? 1 : 0, 1);
        }
    }
}
