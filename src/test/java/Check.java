/** Counts answers that are not as due, and ends a test with the right exit code. */
final class Check {
    private final String name;
    private int wrong;
    private int all;

    Check(String name) {
        this.name = name;
    }

    void due(String what, long got, long want) {
        all++;
        if (got == want) return;
        wrong++;
        if (wrong <= 40) System.out.println(name + ": " + what + " answered " + got + ", due is " + want);
    }

    void holds(String what, boolean good) {
        due(what, good ? 1 : 0, 1);
    }

    void end() {
        System.out.println(name + ": " + (all - wrong) + " as due, " + wrong + " not");
        if (wrong != 0) System.exit(1);
    }

    /** Lays a text byte by byte. */
    static void write(MemoryGeese x, int t, String text) {
        x.text(t, text.length());
        for (int i = 0; i < text.length(); i++) x.put(t, i, text.charAt(i));
    }

    static MemoryGeese flockOf(String text) {
        MemoryGeese x = new MemoryGeese();
        write(x, 0, text);
        x.flock(0);
        return x;
    }

    static void fill(MemoryGeese x, int r, int... values) {
        x.row(r, values.length);
        for (int i = 0; i < values.length; i++) x.lay(r, i, values[i]);
    }
}
