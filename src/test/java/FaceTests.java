import java.lang.reflect.Field;
import java.lang.reflect.Member;
import java.lang.reflect.Method;
import java.lang.reflect.Modifier;
import java.nio.file.Files;
import java.nio.file.Path;
import java.util.ArrayList;
import java.util.List;
import java.util.TreeSet;
import java.util.regex.Matcher;
import java.util.regex.Pattern;

/** The document's face and no more of it, LANGUAGE.md's rules that can be seen from outside, and how little room calls take. */
public final class FaceTests {
    private static final Check C = new Check("FaceTests");
    private static final String[] METHODS = {
        "int row(int,int)", "int lay(int,int,int)", "int at(int,int)", "int tear(int)", "int copy(int,int,int,int,int)",
        "int mean(int)", "int text(int,int)", "int put(int,int,int)", "int fault(int)", "int flock(int)",
        "int goose(int,int)", "int mark(int,int)", "int place(int)", "int give(int,int)", "int fright(int)",
        "int mix(int,int)", "int eat(int,int)", "int undo(int)", "int keep(int)", "int on(int)", "int tells(int,int)",
        "int told(int)", "int holders(int)", "int lost()", "int mute()", "int walk(int,int,int)", "int crew(int)",
        "int least(int)", "int risk()", "int safe()", "int share(int)", "int held(int,int)", "int kinds(int,int)",
        "int odds(int,int)", "int mid(int)", "int lots(int,int)", "int asked()", "long upper()", "long lower()",
        "int count(int)", "int finding()", "int findings(int)", "long digest()"};
    private static final String[] FORBIDDEN = {
        "throw", "throws", "try", "catch", "finally", "synchronized", "assert", "double", "float", "Random", "System.currentTimeMillis",
        "System.nanoTime", "Thread", "protected", "hashCode", "toString", "Object", "Exact", "->", "::", "volatile", "native"};

    private static final List<String> LIBRARY = List.of(
        "Math.max", "Math.min", "Integer.bitCount", "Integer.numberOfTrailingZeros", "Arrays.fill", "System.arraycopy");
    private static final int LONGEST_METHOD = 60;

    public static void main(String[] args) throws Exception {
        face();
        constants();
        nested();
        source();
        library();
        methodsAndLoops();
        room();
        C.end();
    }

    private static String signature(Method m) {
        StringBuilder s = new StringBuilder(m.getReturnType().getName()).append(' ').append(m.getName()).append('(');
        for (int k = 0; k < m.getParameterCount(); k++) s.append(k == 0 ? "" : ",").append(m.getParameterTypes()[k].getName());
        return s.append(')').toString();
    }

    private static boolean isPrivate(Member m) {
        return Modifier.isPrivate(m.getModifiers());
    }

    private static void face() {
        TreeSet<String> want = new TreeSet<>(List.of(METHODS));
        TreeSet<String> got = new TreeSet<>();
        for (Method m : MemoryGeese.class.getDeclaredMethods()) {
            if (isPrivate(m)) continue;
            got.add(signature(m));
            C.holds(m.getName() + " is public, not static", Modifier.isPublic(m.getModifiers()) && !Modifier.isStatic(m.getModifiers()));
        }
        C.holds("the methods are those of the document: " + got, got.equals(want));
        C.due("constructors", MemoryGeese.class.getDeclaredConstructors().length, 1);
        C.due("public constructors without arguments", MemoryGeese.class.getConstructors()[0].getParameterCount(), 0);
        int modifiers = MemoryGeese.class.getModifiers();
        C.holds("public and final", Modifier.isPublic(modifiers) && Modifier.isFinal(modifiers));
    }

    private static void constants() throws Exception {
        String[] names = {"BAD", "FULL", "FINDING", "STATE", "SPENT", "NONE"};
        int[] values = {-1, -2, -3, -4, -6, -9};
        for (int k = 0; k < names.length; k++) C.due(names[k], MemoryGeese.class.getField(names[k]).getInt(null), values[k]);
        int visible = 0;
        for (Field f : MemoryGeese.class.getDeclaredFields()) {
            if (!isPrivate(f)) visible++;
            if (Modifier.isStatic(f.getModifiers())) C.holds(f.getName() + " is final", Modifier.isFinal(f.getModifiers()));
        }
        C.due("constants", visible, names.length);
    }

    private static void nested() {
        List<String> names = new ArrayList<>();
        for (Method m : MemoryGeese.class.getMethods()) if (m.getDeclaringClass() == MemoryGeese.class) names.add(m.getName());
        List<Class<?>> all = new ArrayList<>(List.of(MemoryGeese.class.getDeclaredClasses()));
        C.holds("at most some twelve classes", all.size() < 12);
        for (Class<?> c : all) {
            C.holds(c + " is static", Modifier.isStatic(c.getModifiers()) && !Modifier.isPublic(c.getModifiers()));
            for (Method m : c.getDeclaredMethods()) C.holds(c + "." + m.getName() + " is no name of the face", !names.contains(m.getName()));
        }
        all.add(MemoryGeese.class);
        for (Class<?> c : all) {
            int fields = 0;
            for (Field f : c.getDeclaredFields()) fields += Modifier.isStatic(f.getModifiers()) ? 0 : 1;
            C.holds(c + " has at most some twenty fields", fields <= 20);
            for (Method m : c.getDeclaredMethods()) {
                C.holds(m.getName() + " takes at most seven", m.getParameterCount() <= 7);
                if (c == MemoryGeese.class && isPrivate(m)) C.holds(m.getName() + " is no name of the face", !names.contains(m.getName()));
            }
        }
    }

    private static void source() throws Exception {
        String text = Files.readString(Path.of("src/main/java/MemoryGeese.java"));
        for (int k = 0; k < text.length(); k++) C.holds("plain signs at " + k, text.charAt(k) < 128);
        String code = code();
        for (String word : FORBIDDEN) {
            String pattern = Character.isLetter(word.charAt(0)) ? "\\b" + Pattern.quote(word) + "\\b" : Pattern.quote(word);
            C.holds("no " + word, !Pattern.compile(pattern).matcher(code).find());
        }
        Matcher imports = Pattern.compile("import [^;]*").matcher(code);
        while (imports.find()) C.holds(imports.group(), imports.group().equals("import java.util.Arrays"));
    }

    /** The source without its comments. */
    private static String code() throws Exception {
        String text = Files.readString(Path.of("src/main/java/MemoryGeese.java"));
        return text.replaceAll("(?s)/\\*.*?\\*/", "").replaceAll("//[^\n]*", "");
    }

    /** Rule 4: of the library only what is listed, and of that only what the class needs. */
    private static void library() throws Exception {
        Matcher used = Pattern.compile("\\b(Math|Integer|Long|Arrays|System|String|StringBuilder|List|ArrayList)\\b(\\.\\w+)?").matcher(code());
        int seen = 0;
        while (used.find()) {
            seen++;
            boolean isImport = used.group().equals("Arrays");
            C.holds("of the library: " + used.group(), isImport || LIBRARY.contains(used.group()));
        }
        C.holds("the library's names are found", seen > LIBRARY.size());
    }

    /** Rules 9 and 11: no loop without a bound in its own lines, no method of more than some sixty lines. */
    private static void methodsAndLoops() throws Exception {
        String[] lines = code().split("\n");
        int from = -1;
        int methods = 0;
        String end = "";
        for (int k = 0; k < lines.length; k++) {
            C.holds("a loop with a bound: " + lines[k], !lines[k].matches(".*(while \\(true\\)|for \\([^;]*; *;).*"));
            if (from < 0 && lines[k].matches(" {4,8}\\w[^=;]*\\) \\{")) {
                from = k;
                methods++;
                end = lines[k].replaceAll("\\w.*", "}");
            } else if (from >= 0 && lines[k].equals(end)) {
                C.holds("short enough: " + lines[from], k - from < LONGEST_METHOD);
                from = -1;
            }
        }
        C.holds("all methods are found: " + methods, methods > METHODS.length);
    }

    /** All calls of a run live in one room: only the constructor may take some of it. */
    private static void room() {
        com.sun.management.ThreadMXBean threads =
            (com.sun.management.ThreadMXBean) java.lang.management.ManagementFactory.getThreadMXBean();
        long id = Thread.currentThread().getId();
        int[] row = {0, 1, 2, 4, 1, 0};
        MemoryGeese x = Check.flockOf("v01234501 g40012 a80765 t402 h3107 l80123 s80456");
        Check.fill(x, 0, row);
        everyCall(x);
        threads.getThreadAllocatedBytes(id);
        long before = threads.getThreadAllocatedBytes(id);
        for (int k = 0; k < 100; k++) everyCall(x);
        long taken = threads.getThreadAllocatedBytes(id) - before;
        C.holds("4,500 calls take " + taken + " bytes", taken < 4096);
    }

    private static void everyCall(MemoryGeese x) {
        x.text(1, 5);
        x.put(1, 1, 3);
        x.fault(0);
        x.flock(0);
        x.row(5, 7);
        x.lay(5, 1, 1);
        x.at(5, 1);
        x.copy(5, 0, 5, 1, 3);
        x.mean(5);
        x.tear(5);
        x.goose(1, 3);
        x.mark(1, 1);
        x.place(1);
        x.give(0, 5);
        x.fright(1);
        x.mix(0, 1);
        x.keep(0);
        x.eat(3, 2);
        x.undo(2);
        x.on(0);
        x.tells(2, 0);
        x.told(63);
        x.holders(1);
        x.lost();
        x.mute();
        x.walk(0, 7, 4);
        x.crew(255);
        x.least(255);
        x.risk();
        x.safe();
        x.share(0);
        x.held(0, 0);
        x.kinds(0, 0);
        x.odds(15, 5);
        x.mid(5);
        x.lots(12, 99);
        x.asked();
        x.upper();
        x.lower();
        x.count(3);
        x.finding();
        x.findings(1);
        x.digest();
    }
}
