import java.util.Arrays;

/** Edges of the promises 1 to 14: new objects, rows, texts, flocks, geese, marks, places. */
public final class RowEdgeTests {
    private static final int NONE = Edge.NONE, LOW = Edge.LOW, HIGH = Edge.HIGH;
    private static final int NOTHING = Edge.NOTHING, BEYOND = Edge.BEYOND, UNLIKE = Edge.UNLIKE, NOUGHT = Edge.NOUGHT, SIZE = Edge.SIZE;
    private static final String LETTERS = "gathls";
    private static final Edge E = new Edge("RowEdgeTests");

    public static void main(String[] args) {
        ranges();
        newObject();
        rows();
        places();
        tearing();
        copies();
        refusedCopies();
        means();
        texts();
        bytes();
        faults();
        faultsAtTheLastByte();
        flocks();
        flocksAnew();
        readingLeavesTheFlock();
        geese();
        kindsOfMarks();
        marks();
        placesOfFacts();
        E.end(1, 2, 3, 4, 5, 6, 7, 8, 9, 10, 11, 12, 13, 14);
    }

    private static void ranges() {
        E.range(2, (x, a) -> x.row(a[0], a[1]), 0, 0, 5, 0, 3);
        E.range(3, (x, a) -> x.lay(a[0], a[1], a[2]), 0, 0, 5, 0, 3, 8);
        E.range(4, (x, a) -> x.at(a[0], a[1]), 0, 0, 5, 0, 3);
        E.range(5, (x, a) -> x.tear(a[0]), 0, 0, 5, 0);
        E.range(6, (x, a) -> x.copy(a[0], a[1], a[2], a[3], a[4]), 0, 0, 5, 0, 0, 1, 0, 4);
        E.range(6, (x, a) -> x.copy(a[0], a[1], a[2], a[3], a[4]), 2, 0, 5, 0, 0, 1, 0, 4);
        E.range(7, (x, a) -> x.mean(a[0]), 0, 0, 5, 0);
        E.range(8, (x, a) -> x.text(a[0], a[1]), 0, 0, 3, 0, 7);
        E.range(9, (x, a) -> x.put(a[0], a[1], a[2]), 0, 0, 3, 0, 7, 7);
        E.range(10, (x, a) -> x.fault(a[0]), 0, 0, 3, 0);
        E.range(11, (x, a) -> x.flock(a[0]), 0, 0, 3, 0);
        E.range(12, (x, a) -> x.goose(a[0], a[1]), 0, 0, 2, 0, 3);
        E.range(12, (x, a) -> x.goose(a[0], a[1]), 1, 0, 6, 0, 3);
        E.range(13, (x, a) -> x.mark(a[0], a[1]), 0, 0, 2, 0, 3);
        E.range(13, (x, a) -> x.mark(a[0], a[1]), 1, 1, 5, 0, 3);
        E.range(14, (x, a) -> x.place(a[0]), 0, 0, 3, 0);
    }

    /** "No ROWS, TEXTS, GEESE, FACTS", nor anything kept. */
    private static void newObject() {
        E.by(1);
        MemoryGeese x = new MemoryGeese();
        for (int what = 0; what <= 8; what++) E.due("count at first", x.count(what), 0);
        for (int k = 0; k < 6; k++) {
            int r = k;
            E.finds("no row at first", x, NOTHING, () -> x.at(r, 0));
        }
        for (int k = 0; k < 4; k++) {
            int t = k;
            E.finds("no text at first", x, NOTHING, () -> x.fault(t));
        }
        for (int k = 0; k < 3; k++) {
            int place = k;
            E.finds("none kept at first", x, NOTHING, () -> x.on(place));
        }
        E.bad("no fact at first", x, () -> x.place(0));
        E.bad("no goose at first", x, () -> x.goose(0, 0));
        E.bad("no goose at first", x, () -> x.mark(0, 1));
        E.bad("no goose at first", x, () -> x.give(0, 0));
        E.bad("no goose at first", x, () -> x.fright(0));
        E.bad("no goose at first", x, () -> x.mix(0, 1));
        E.bad("no goose at first", x, () -> x.eat(0, NONE));
        E.bad("no deed at first", x, () -> x.undo(1));
        E.bad("no goose at first", x, () -> x.tells(0, 0));
        E.bad("no goose at first", x, () -> x.told(1));
        E.bad("no fact at first", x, () -> x.holders(0));
        E.bad("no fact at first", x, () -> x.crew(1));
        E.bad("no fact at first", x, () -> x.least(1));
        E.bad("no goose at first", x, () -> x.walk(0, 0, 0));
        E.bad("no goose at first", x, () -> x.share(0));
        E.bad("no goose at first", x, () -> x.held(0, 0));
        E.bad("no goose at first", x, () -> x.kinds(0, 0));
        E.bad("no fact at first", x, () -> x.odds(1, 6));
        E.state("no geese at first", x, () -> x.keep(0));
        E.state("no geese at first", x, () -> x.safe());
        E.state("no geese at first", x, () -> x.lots(12, 1));
        E.due("told by none", x.told(0), 0);
        E.due("heard by none", x.least(0), 0);
        E.due("a fault is found without a flock", x.fault(0), Edge.FINDING);
    }

    private static void rows() {
        E.by(2);
        for (int k = 0; k < 6; k++) {
            int r = k;
            MemoryGeese x = new MemoryGeese();
            for (int n : new int[] {0, 1, 39, 40}) {
                E.due("row of " + n, x.row(r, n), n);
                for (int i = 0; i < n; i++) E.asks("all are 0", x, x.at(r, i), 1, 0);
                E.finds("no more places", x, BEYOND, () -> x.at(r, n));
                for (int i = 0; i < n; i++) x.lay(r, i, -7);
            }
            E.due("one row is there", x.count(6), 1);
            E.bad("41 ints", x, () -> x.row(r, 41));
            E.bad("far too many ints", x, () -> x.row(r, HIGH));
            E.finds("-1 ints", x, SIZE, () -> x.row(r, -1));
            E.finds("fewer than none", x, SIZE, () -> x.row(r, LOW));
            E.asks("a refused row stays", x, x.at(r, 39), 1, -7);
        }
        MemoryGeese y = new MemoryGeese();
        E.bad("BAD ahead of SIZE", y, () -> y.row(6, -1));
        E.bad("BAD ahead of SIZE", y, () -> y.row(-1, -1));
        E.bad("both BAD", y, () -> y.row(-1, 41));
        E.finds("SIZE of a row that is missing", y, SIZE, () -> y.row(5, -1));
    }

    private static void places() {
        E.by(3);
        MemoryGeese x = new MemoryGeese();
        x.row(0, 2);
        E.asks("lay, it was 0", x, x.lay(0, 1, LOW), 1, 0);
        E.asks("lay, it was the least", x, x.lay(0, 1, HIGH), 1, LOW);
        E.asks("lay, it was the greatest", x, x.lay(0, 1, -9), 1, HIGH);
        for (int i : new int[] {2, -1, HIGH, LOW}) E.finds("lay at " + i, x, BEYOND, () -> x.lay(0, i, 1));
        E.finds("NOTHING ahead of BEYOND", x, NOTHING, () -> x.lay(1, -1, 1));
        E.bad("BAD ahead of NOTHING", x, () -> x.lay(6, -1, 1));
        E.by(4);
        E.asks("at the start", x, x.at(0, 0), 1, 0);
        E.asks("at the end", x, x.at(0, 1), 1, -9);
        for (int i : new int[] {2, -1, HIGH, LOW}) E.finds("at " + i, x, BEYOND, () -> x.at(0, i));
        E.finds("NOTHING ahead of BEYOND", x, NOTHING, () -> x.at(1, -1));
        E.bad("BAD ahead of NOTHING", x, () -> x.at(6, -1));
        x.row(2, 0);
        E.finds("at of an empty row", x, BEYOND, () -> x.at(2, 0));
    }

    private static void tearing() {
        E.by(5);
        MemoryGeese x = new MemoryGeese();
        Check.fill(x, 0, 3, 4);
        x.row(5, 0);
        E.due("tear an empty one", x.tear(5), 1);
        E.due("the other is there", x.count(6), 1);
        E.due("tear one", x.tear(0), 1);
        E.due("none is there", x.count(6), 0);
        E.finds("torn already", x, NOTHING, () -> x.tear(0));
        E.finds("never there", x, NOTHING, () -> x.tear(1));
        E.finds("torn: no place", x, NOTHING, () -> x.at(0, 0));
        E.finds("torn: nothing laid", x, NOTHING, () -> x.lay(0, 0, 1));
        E.finds("torn: no mean", x, NOTHING, () -> x.mean(0));
        x.row(0, 2);
        E.rowIs("made anew behind tearing", x, 0, 0, 0);
    }

    private static void copies() {
        E.by(6);
        int[] forty = new int[40];
        int[] up = new int[40];
        int[] down = new int[40];
        for (int i = 0; i < 40; i++) {
            forty[i] = i + 1;
            up[i] = Math.max(1, i);
            down[i] = Math.min(40, i + 3);
        }
        down[38] = 39;
        MemoryGeese x = new MemoryGeese();
        Check.fill(x, 0, forty);
        x.row(5, 40);
        E.due("all of the longest", x.copy(0, 0, 5, 0, 40), 1);
        E.rowIs("all", x, 5, forty);
        E.due("within, one up", x.copy(0, 0, 0, 1, 39), 1);
        E.rowIs("one up, as if taken ahead", x, 0, up);
        E.due("within, two down", x.copy(5, 2, 5, 0, 38), 1);
        E.rowIs("two down, as if taken ahead", x, 5, down);
        E.unchanged("onto itself", x, 1, () -> x.copy(0, 0, 0, 0, 40));
        Check.fill(x, 1, 7, 8, 9);
        Check.fill(x, 2, 4, 5);
        E.unchanged("none, at both ends", x, 1, () -> x.copy(1, 3, 2, 2, 0));
        E.unchanged("none, at both starts", x, 1, () -> x.copy(1, 0, 2, 0, 0));
        E.due("one, up to both ends", x.copy(1, 2, 2, 1, 1), 1);
        E.rowIs("one", x, 2, 4, 9);
        E.due("two, from the start", x.copy(1, 0, 2, 0, 2), 1);
        E.rowIs("two", x, 2, 7, 8);
        E.rowIs("from where it came", x, 1, 7, 8, 9);
    }

    private static void refusedCopies() {
        E.by(6);
        MemoryGeese x = new MemoryGeese();
        Check.fill(x, 1, 7, 8, 9);
        Check.fill(x, 2, 4, 5);
        E.finds("one from behind the end", x, BEYOND, () -> x.copy(1, 3, 2, 0, 1));
        E.finds("one to behind the end", x, BEYOND, () -> x.copy(1, 0, 2, 2, 1));
        E.finds("one too many from", x, BEYOND, () -> x.copy(2, 0, 1, 0, 3));
        E.finds("one too many to", x, BEYOND, () -> x.copy(1, 0, 2, 0, 3));
        E.finds("from ahead of the start", x, BEYOND, () -> x.copy(1, -1, 2, 0, 2));
        E.finds("to ahead of the start", x, BEYOND, () -> x.copy(1, 0, 2, -1, 2));
        E.finds("the end wraps around", x, BEYOND, () -> x.copy(1, HIGH, 2, 0, 1));
        E.finds("the end wraps around", x, BEYOND, () -> x.copy(1, 0, 2, HIGH, 1));
        E.finds("the end wraps around", x, BEYOND, () -> x.copy(1, 1, 2, 1, HIGH));
        E.finds("the end wraps around", x, BEYOND, () -> x.copy(1, LOW, 2, LOW, HIGH));
        E.finds("fewer than none", x, SIZE, () -> x.copy(1, 0, 2, 0, -1));
        E.finds("fewer than none", x, SIZE, () -> x.copy(1, 0, 2, 0, LOW));
        E.finds("SIZE ahead of NOTHING from", x, SIZE, () -> x.copy(3, 0, 2, 0, -1));
        E.finds("SIZE ahead of NOTHING to", x, SIZE, () -> x.copy(1, 0, 3, 0, -1));
        E.finds("SIZE ahead of BEYOND", x, SIZE, () -> x.copy(1, 9, 2, 9, -1));
        E.finds("NOTHING from ahead of BEYOND to", x, NOTHING, () -> x.copy(3, 0, 2, 9, 1));
        E.finds("NOTHING to ahead of BEYOND from", x, NOTHING, () -> x.copy(1, 9, 3, 0, 1));
        E.finds("NOTHING both", x, NOTHING, () -> x.copy(3, 0, 4, 0, 0));
        E.finds("NOTHING itself", x, NOTHING, () -> x.copy(3, 0, 3, 0, 0));
        E.bad("BAD from ahead of SIZE", x, () -> x.copy(-1, 0, 2, 0, -1));
        E.bad("BAD to ahead of SIZE", x, () -> x.copy(1, 0, 6, 0, -1));
        E.bad("BAD ahead of NOTHING", x, () -> x.copy(3, 0, 6, 0, 1));
        E.bad("BAD ahead of BEYOND", x, () -> x.copy(6, 9, 2, 9, 9));
    }

    private static void meanIs(int want, int... values) {
        MemoryGeese x = new MemoryGeese();
        Check.fill(x, 4, values);
        E.asks("mean of " + Arrays.toString(values), x, x.mean(4), 1, want);
    }

    private static void means() {
        E.by(7);
        meanIs(5, 5);
        meanIs(LOW, LOW);
        meanIs(0, 1, 0);
        meanIs(0, -1, 0);
        meanIs(1, 1, 2);
        meanIs(-1, -1, -2);
        meanIs(-1, -3, 0);
        meanIs(0, HIGH, LOW);
        meanIs(HIGH - 1, HIGH, HIGH - 1);
        int[] greatest = new int[40];
        int[] lowest = new int[40];
        Arrays.fill(greatest, HIGH);
        Arrays.fill(lowest, LOW);
        meanIs(HIGH, greatest);
        meanIs(LOW, lowest);
        MemoryGeese x = new MemoryGeese();
        E.finds("no row", x, NOTHING, () -> x.mean(0));
        x.row(0, 0);
        E.finds("shared among none", x, NOUGHT, () -> x.mean(0));
        E.bad("BAD ahead of NOTHING", x, () -> x.mean(6));
    }

    private static void texts() {
        E.by(8);
        for (int k = 0; k < 4; k++) {
            int t = k;
            MemoryGeese x = new MemoryGeese();
            for (int n : new int[] {0, 1, 79, 80}) {
                E.due("text of " + n, x.text(t, n), n);
                for (int i = 0; i < n; i++) E.due("a blank", x.put(t, i, 1), 1032);
                E.finds("no more bytes", x, BEYOND, () -> x.put(t, n, 1));
            }
            E.due("one text is there", x.count(7), 1);
            E.bad("81 bytes", x, () -> x.text(t, 81));
            E.bad("far too many bytes", x, () -> x.text(t, HIGH));
            E.finds("-1 bytes", x, SIZE, () -> x.text(t, -1));
            E.finds("fewer than none", x, SIZE, () -> x.text(t, LOW));
            E.due("a refused text stays", x.put(t, 79, 1), 1001);
        }
        MemoryGeese y = new MemoryGeese();
        E.bad("BAD ahead of SIZE", y, () -> y.text(4, -1));
        E.bad("BAD ahead of SIZE", y, () -> y.text(-1, -1));
        E.bad("both BAD", y, () -> y.text(4, 81));
    }

    private static void bytes() {
        E.by(9);
        MemoryGeese x = new MemoryGeese();
        E.finds("no text", x, NOTHING, () -> x.put(1, 0, 1));
        E.finds("NOTHING ahead of BEYOND", x, NOTHING, () -> x.put(1, -1, 1));
        E.bad("BAD ahead of NOTHING", x, () -> x.put(4, -1, 1));
        x.text(1, 2);
        int[] values = {127, 128, 255, 256, -1, -128, -129, 383, LOW, HIGH, 0};
        int[] were = {1032, 1127, 872, 999, 1000, 999, 872, 1127, 1127, 1000, 999};
        for (int k = 0; k < values.length; k++) E.due("put " + values[k], x.put(1, 1, values[k]), were[k]);
        E.due("the other byte stays", x.put(1, 0, 1), 1032);
        for (int i : new int[] {2, -1, HIGH, LOW}) E.finds("put at " + i, x, BEYOND, () -> x.put(1, i, 1));
        x.text(2, 0);
        E.finds("put to an empty one", x, BEYOND, () -> x.put(2, 0, 1));
    }

    /** Behind this beginning only such bytes go on, and only behind some of these the text may end. */
    private static void next(String beginning, String goesOn, String mayEnd) {
        int size = beginning.length() + 1;
        for (int v = -128; v < 128; v++) {
            MemoryGeese x = new MemoryGeese();
            Check.write(x, 3, beginning + ' ');
            x.put(3, size - 1, v);
            boolean goes = v > 0 && goesOn.indexOf(v) >= 0;
            boolean ends = v > 0 && mayEnd.indexOf(v) >= 0;
            String what = "'" + beginning + "' and byte " + v;
            E.due(what, x.fault(3), ends ? NONE : goes ? size : size - 1);
            if (ends) E.due(what + " is a flock", x.flock(3) > 0 ? 1 : 0, 1);
            else E.state(what + " as a flock", x, () -> x.flock(3));
        }
    }

    private static void faults() {
        E.by(10);
        String digits = "0123456789";
        String places = "012345";
        next("", " v", "");
        next("   ", " v", "");
        next("v", places, "");
        next("v0", " " + places + LETTERS, "");
        next("v0123450", " " + places + LETTERS, "");
        next("v01234501", " " + LETTERS, "");
        next("v0 ", " " + LETTERS, "");
        for (char c : LETTERS.toCharArray()) next("v0" + c, "12345678", "");
        for (char c : LETTERS.toCharArray()) next("v0" + c + "8", digits, digits);
        next("v0g10", " 0" + LETTERS, " 0");
        next("v0g100", " " + LETTERS, " ");
        next("v0g10 ", " " + LETTERS, " ");
        next("v0g200", " " + LETTERS, " ");
        next("v012g20", " 012" + LETTERS, " 012");
        next("v012g201", " 02" + LETTERS, " 02");
        next("v012g2012", " " + LETTERS, " ");
        next("v01234501g80", " 01234567" + LETTERS, " 01234567");
        next("v01234501g807654321", " 0" + LETTERS, " 0");
        next("v01234501g8076543210", " " + LETTERS, " ");
        next("v0g10g10g10g10g10", " 0" + LETTERS, " 0");
        next("v0g10g10g10g10g10g10", " 0", " 0");
        next("v0g10g10g10g10g10g10 ", " ", " ");
        for (int n = 0; n <= 80; n++) {
            MemoryGeese x = new MemoryGeese();
            x.text(0, n);
            E.unchanged(n + " blanks alone", x, n, () -> x.fault(0));
        }
        for (int ahead = 0; ahead <= 70; ahead += 7) {
            for (int between = 0; between + ahead <= 70; between += 7) {
                MemoryGeese x = new MemoryGeese();
                String text = " ".repeat(ahead) + "v0" + " ".repeat(between) + "g10";
                Check.write(x, 0, text + " ".repeat(80 - text.length()));
                E.unchanged("blanks ahead, between, behind", x, NONE, () -> x.fault(0));
            }
        }
        MemoryGeese y = new MemoryGeese();
        E.finds("no text", y, NOTHING, () -> y.fault(3));
        E.bad("BAD ahead of NOTHING", y, () -> y.fault(4));
    }

    /** A text of 80 bytes whose end comes too early, or just so, behind each of its items. */
    private static void faultsAtTheLastByte() {
        E.by(10);
        String[] early = {"", "v", "v0", "v01234501", "v0 g", "v0 g1", "v0 g10 a", "v0 g10 a8", "v0 g100 s1", "v0 " + "g10".repeat(5) + "g1"};
        String[] whole = {"v0 g10", "v0 g100", "v0 g10 ", "v01234501 l8976543210", "v0 " + "g10".repeat(6), "v0 " + "g100".repeat(6)};
        for (String end : early) faultOf(" ".repeat(80 - end.length()) + end, 80);
        for (String end : whole) faultOf(" ".repeat(80 - end.length()) + end, NONE);
        for (String end : whole) faultOf(" ".repeat(79 - end.length()) + end + "v", 79);
    }

    private static void faultOf(String text, int want) {
        MemoryGeese x = new MemoryGeese();
        Check.write(x, 3, text);
        E.unchanged("fault of '" + text + "'", x, want, () -> x.fault(3));
    }

    private static void flocks() {
        E.by(11);
        for (int n = 1; n <= 6; n++) E.due("so many geese", E.flock("v0" + "g10".repeat(n)).count(0), n);
        for (int n = 1; n <= 8; n++) E.due("so many facts", E.flock("v" + "5".repeat(n) + "g10").count(1), n);
        MemoryGeese x = new MemoryGeese();
        E.finds("no text", x, NOTHING, () -> x.flock(1));
        E.bad("BAD ahead of NOTHING", x, () -> x.flock(4));
        x.text(3, 0);
        E.state("an empty text", x, () -> x.flock(3));
        Check.write(x, 2, "v0g10");
        E.due("the least flock", x.flock(2), 1);
    }

    private static void flocksAnew() {
        E.by(11);
        MemoryGeese x = Edge.village();
        x.eat(2, NONE);
        x.odds(3, 5);
        long upper = x.upper();
        long lower = x.lower();
        x.lay(5, 3, 77);
        x.at(5, 3);
        x.put(3, 0, 'w');
        x.text(1, 0);
        E.state("a fault leaves all as it was", x, () -> x.flock(3));
        E.state("a fault leaves all as it was", x, () -> x.flock(1));
        E.due("the same anew", x.flock(0), 3);
        E.due("no deeds", x.count(3), 0);
        E.due("none gone", x.count(2), 3);
        E.due("none kept", x.count(8), 0);
        E.unchanged("nothing to undo", x, 0, () -> x.undo(0));
        for (int k = 0; k < 3; k++) {
            int place = k;
            E.finds("kept ones went", x, NOTHING, () -> x.on(place));
        }
        E.due("rows stay", x.count(6), 6);
        E.due("texts stay", x.count(7), 4);
        E.due("upper stays", x.upper(), upper);
        E.due("lower stays", x.lower(), lower);
        E.due("asked stays", x.asked(), 77);
        E.holds("what the text says", x, 0, 0, 1);
        E.holds("what the text says", x, 2, 1, 2);
        Check.write(x, 1, "v5h10");
        E.due("a lesser flock", x.flock(1), 1);
        E.bad("no goose of the earlier one", x, () -> x.goose(1, 0));
        E.bad("no fact of the earlier one", x, () -> x.place(1));
        E.holds("nothing of the earlier one", x, 0);
    }

    /** Neither asking for a fault nor a refused flock changes what deeds are undone to, what kept ones go on from. */
    private static void readingLeavesTheFlock() {
        for (String other : new String[] {"v54321 t8901 l30 g10 g10", "v543 g2010 x", "", "v012345 g8001234567"}) {
            MemoryGeese x = E.flock("v0123 g4501 s332 h2112");
            x.give(0, 3);
            x.keep(0);
            x.eat(1, NONE);
            Check.write(x, 1, other);
            E.by(10);
            E.due("fault of '" + other + "'", x.fault(1) == NONE ? 1 : 0, other.startsWith("v54321") ? 1 : 0);
            E.by(11);
            if (x.fault(1) != NONE) E.state("flock of '" + other + "'", x, () -> x.flock(1));
            E.due("going on", x.on(0), 1);
            E.holds("as it was kept", x, 0, 0, 1, 3);
            E.holds("as it was kept", x, 1, 2);
            E.due("undone", x.undo(0), 1);
            E.holds("as at first", x, 0, 0, 1);
            E.holds("as at first", x, 1, 2);
            E.holds("as at first", x, 2, 1, 2);
            E.due("the facts of the flock", x.count(1), 4);
            E.due("the geese of the flock", x.count(0), 3);
        }
    }

    private static void gooseIs(String what, MemoryGeese x, int i, int... want) {
        for (int k = 0; k < want.length; k++) E.asks(what + " goose(" + i + ", " + k + ")", x, x.goose(i, k), 1, want[k]);
    }

    private static void geese() {
        E.by(12);
        MemoryGeese x = E.flock("v01234501 g10 a89 t8076543210 h177 l2101 s10");
        gooseIs("the least", x, 0, 0, 1, 0, 0, NONE, NONE, 0);
        gooseIs("the most, the top rank", x, 1, 1, 8, 9, 0, NONE, NONE, 0);
        gooseIs("all held", x, 2, 2, 8, 0, 255, 0, 7, 0);
        gooseIs("one held", x, 3, 3, 1, 7, 128, 7, 7, 0);
        gooseIs("two held", x, 4, 4, 2, 1, 3, 1, 0, 0);
        gooseIs("the last", x, 5, 5, 1, 0, 0, NONE, NONE, 0);
        x.eat(2, NONE);
        gooseIs("gone", x, 2, 2, 8, 0, 0, NONE, NONE, 1);
    }

    private static void kindsOfMarks() {
        E.by(13);
        String[] isOf = {"", "1", "2", "3", "34", "15"};
        MemoryGeese x = E.flock("v0g10a10t10h10l10s10");
        for (int k = 0; k < 6; k++) {
            int i = k;
            for (int kind = 1; kind <= 5; kind++) {
                int of = kind;
                if (isOf[i].indexOf('0' + kind) >= 0) E.due(i + " is of kind " + kind, x.mark(i, kind) >= 0 ? 1 : 0, 1);
                else E.finds(i + " is not of kind " + kind, x, UNLIKE, () -> x.mark(i, of));
            }
            E.bad("KIND 0", x, () -> x.mark(i, 0));
        }
        E.bad("BAD ahead of UNLIKE", x, () -> x.mark(6, 1));
        E.bad("BAD ahead of UNLIKE", x, () -> x.mark(0, 6));
        for (int i = 1; i < 6; i++) x.give(i, 0);
        for (int i = 0; i < 6; i++) x.eat(i, NONE);
        for (int i = 0; i < 6; i++) {
            for (int c : isOf[i].toCharArray()) E.due("gone: 0", x.mark(i, c - '0'), 0);
        }
        E.finds("gone, and of another kind", x, UNLIKE, () -> x.mark(1, 2));
    }

    private static void marks() {
        E.by(13);
        MemoryGeese x = E.flock("v0g10a10t10h10l10s10");
        int[][] empty = {{1, 1, 0}, {2, 2, 0}, {3, 3, 1}, {4, 3, 1}, {4, 4, 0}, {5, 1, 0}, {5, 5, 0}};
        for (int[] m : empty) E.due("without facts, mark(" + m[0] + ", " + m[1] + ")", x.mark(m[0], m[1]), m[2]);
        for (int i = 1; i < 6; i++) x.give(i, 0);
        int[][] filled = {{1, 1, 1}, {2, 2, 1}, {3, 3, 0}, {4, 3, 0}, {4, 4, 1}, {5, 1, 0}, {5, 5, 0}};
        for (int[] m : filled) E.due("full, mark(" + m[0] + ", " + m[1] + ")", x.mark(m[0], m[1]), m[2]);
        for (int i = 1; i < 5; i++) x.eat(i, NONE);
        E.due("no other holds it any more", x.mark(5, 5), 1);
        MemoryGeese y = E.flock("v01234500 a8001234567 t8001234567 l80012345 s80123456");
        E.due("a gander at all places", y.mark(0, 1), 6);
        E.due("a twin, all facts", y.mark(1, 2), 8);
        E.due("a gosling, the even ones", y.mark(2, 4), 3);
        E.due("a gosling's room", y.mark(2, 3), 2);
        E.due("a stray at all places but 0", y.mark(3, 1), 5);
        E.due("a stray alone with none", y.mark(3, 5), 0);
        MemoryGeese z = E.flock("v55 a8001 h80");
        E.due("two of one place", z.mark(0, 1), 1);
        E.due("a hen's room", z.mark(1, 3), 8);
    }

    private static void placesOfFacts() {
        E.by(14);
        MemoryGeese x = E.flock("v50123450g10");
        int[] at = {5, 0, 1, 2, 3, 4, 5, 0};
        for (int f = 0; f < 8; f++) E.due("place of " + f, x.place(f), at[f]);
        E.bad("a ninth fact", x, () -> x.place(8));
        x.eat(0, NONE);
        E.due("a place stays, though nobody is left", x.place(7), 0);
    }
}
