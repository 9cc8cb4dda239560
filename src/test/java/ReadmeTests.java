import java.lang.reflect.Method;
import java.lang.reflect.Modifier;
import java.nio.file.Files;
import java.nio.file.Path;
import java.util.List;
import java.util.Map;
import java.util.TreeMap;
import java.util.regex.Matcher;
import java.util.regex.Pattern;

/** What README.md shows: its example is done call by call, each with the answer that stands behind it. */
public final class ReadmeTests {
    private static final Check C = new Check("ReadmeTests");
    private static final Pattern CALL = Pattern.compile("x\\.(\\w+)\\((.*)\\); *// (-?\\d+|[A-Z]+)\\b.*");
    private static final Pattern TEXT = Pattern.compile("String s = \"([^\"]*)\";.*");
    private static final String MAKE = "MemoryGeese x = new MemoryGeese();";
    private static final String WRITE = "for (int i = 0; i < s.length(); i++) x.put(0, i, s.charAt(i));";
    private static final int FEWEST_CALLS = 20;

    private final Map<String, Method> face = new TreeMap<>();
    private MemoryGeese x;
    private String text = "";
    private int calls;

    private ReadmeTests() {
        for (Method m : MemoryGeese.class.getDeclaredMethods()) {
            if (Modifier.isPublic(m.getModifiers())) face.put(m.getName(), m);
        }
    }

    public static void main(String[] args) throws Exception {
        List<String> lines = Files.readAllLines(Path.of("README.md"));
        ReadmeTests tests = new ReadmeTests();
        tests.namesEveryCall(String.join("\n", lines));
        tests.doExample(lines);
        C.end();
    }

    private void namesEveryCall(String page) {
        for (String name : face.keySet()) C.holds("README.md names " + name, page.contains("`" + name + "`"));
    }

    private void doExample(List<String> lines) throws Exception {
        boolean within = false;
        for (String line : lines) {
            if (line.startsWith("```")) within = line.equals("```java");
            else if (within && !line.isBlank()) doLine(line);
        }
        C.holds("the example has " + calls + " calls", calls >= FEWEST_CALLS);
    }

    private void doLine(String line) throws Exception {
        Matcher call = CALL.matcher(line);
        Matcher string = TEXT.matcher(line);
        if (line.equals(MAKE)) x = new MemoryGeese();
        else if (line.equals(WRITE)) writeText();
        else if (string.matches()) text = string.group(1);
        else if (call.matches()) doCall(line, call);
        else C.holds("a line that is understood: " + line, false);
    }

    private void writeText() {
        for (int i = 0; i < text.length(); i++) x.put(0, i, text.charAt(i));
    }

    private void doCall(String line, Matcher call) throws Exception {
        Method method = face.get(call.group(1));
        C.holds("a call of the face: " + line, method != null);
        if (method == null) return;
        String[] words = call.group(2).isEmpty() ? new String[0] : call.group(2).split(", ");
        Object[] args = new Object[words.length];
        for (int k = 0; k < words.length; k++) args[k] = valueOf(words[k]);
        calls++;
        C.due(line, ((Number) method.invoke(x, args)).longValue(), valueOf(call.group(3)));
    }

    /** A number, the text's length, or a constant of the class. */
    private int valueOf(String word) throws Exception {
        if (word.equals("s.length()")) return text.length();
        String name = word.replace("MemoryGeese.", "");
        return Character.isLetter(name.charAt(0)) ? MemoryGeese.class.getField(name).getInt(null) : Integer.parseInt(name);
    }
}
