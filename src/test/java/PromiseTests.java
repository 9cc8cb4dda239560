/** For each promise its ordinary answers, the edges that the document names, and what is refused. */
public final class PromiseTests {
    private static final int BAD = -1, FULL = -2, FINDING = -3, STATE = -4, NONE = -9;
    private static final int NOTHING = 1, BEYOND = 2, UNLIKE = 3, NOUGHT = 4, SIZE = 5;
    private static final int LOW = Integer.MIN_VALUE, HIGH = Integer.MAX_VALUE;
    private static final String SIX = "v00123455 g45012 a53135 t40024 h21 l561 s6246";
    private static final Check C = new Check("PromiseTests");

    public static void main(String[] args) {
        newObject();
        rows();
        copies();
        means();
        texts();
        faults();
        flocks();
        geese();
        marks();
        gives();
        frights();
        mixes();
        eats();
        undoes();
        keeps();
        fullLog();
        tellings();
        losses();
        walks();
        crews();
        risks();
        safety();
        shares();
        helds();
        kindsOf();
        springs();
        lotteries();
        asking();
        counts();
        findingsTold();
        digests();
        C.end();
    }

    private static void due(String what, long got, long want) {
        C.due(what, got, want);
    }

    /** A finding is answered, told as the latest one, and counted once; nothing else changes. */
    private static void finds(String what, MemoryGeese x, int f, java.util.function.IntSupplier call) {
        int before = x.findings(f);
        int asked = x.asked();
        long digest = x.digest();
        due(what, call.getAsInt(), FINDING);
        due(what + " finding", x.finding(), f);
        due(what + " findings", x.findings(f), before + 1);
        due(what + " asked", x.asked(), asked);
        due(what + " digest", x.digest(), digest);
    }

    private static void refuses(String what, MemoryGeese x, int refusal, java.util.function.IntSupplier call) {
        int finding = x.finding();
        int asked = x.asked();
        long upper = x.upper(), lower = x.lower(), digest = x.digest();
        due(what, call.getAsInt(), refusal);
        due(what + " finding", x.finding(), finding);
        due(what + " asked", x.asked(), asked);
        due(what + " upper", x.upper(), upper);
        due(what + " lower", x.lower(), lower);
        due(what + " digest", x.digest(), digest);
    }

    private static void asks(String what, MemoryGeese x, int answer, int wantAnswer, int wantAsked) {
        due(what, answer, wantAnswer);
        due(what + " asked", x.asked(), wantAsked);
    }

    private static void ratio(String what, MemoryGeese x, int answer, long upper, long lower) {
        due(what, answer, 1);
        due(what + " upper", x.upper(), upper);
        due(what + " lower", x.lower(), lower);
    }

    // 1
    private static void newObject() {
        MemoryGeese x = new MemoryGeese();
        for (int what = 0; what < 9; what++) due("new count " + what, x.count(what), 0);
        due("new asked", x.asked(), 0);
        due("new upper", x.upper(), 0);
        due("new lower", x.lower(), 1);
        due("new finding", x.finding(), 0);
        for (int f = 1; f <= 5; f++) due("new findings", x.findings(f), 0);
        due("new told(0)", x.told(0), 0);
        due("new told(1)", x.told(1), BAD);
        asks("new lost", x, x.lost(), NONE, 0);
        asks("new mute", x, x.mute(), NONE, 0);
        asks("new crew(0)", x, x.crew(0), 0, 0);
        due("new crew(1)", x.crew(1), BAD);
        due("new least(0)", x.least(0), 0);
        asks("new risk", x, x.risk(), 0, NONE);
        due("new safe", x.safe(), STATE);
        ratio("new odds(0, 5)", x, x.odds(0, 5), 1, 1);
        ratio("new mid(5)", x, x.mid(5), 0, 1);
        due("new lots", x.lots(1, 1), STATE);
        due("new undo(0)", x.undo(0), 0);
        due("new undo(1)", x.undo(1), BAD);
        due("new keep", x.keep(0), STATE);
        due("new goose", x.goose(0, 0), BAD);
    }

    // 2, 3, 4, 5
    private static void rows() {
        MemoryGeese x = new MemoryGeese();
        finds("at, no row", x, NOTHING, () -> x.at(0, 0));
        finds("lay, no row", x, NOTHING, () -> x.lay(5, 0, 1));
        finds("tear, no row", x, NOTHING, () -> x.tear(5));
        due("row(5, 40)", x.row(5, 40), 40);
        due("row(0, 0)", x.row(0, 0), 0);
        refuses("row(6, 1)", x, BAD, () -> x.row(6, 1));
        refuses("row(-1, 1)", x, BAD, () -> x.row(-1, 1));
        refuses("row(6, -1)", x, BAD, () -> x.row(6, -1));
        refuses("row(0, 41)", x, BAD, () -> x.row(0, 41));
        finds("row(0, -1)", x, SIZE, () -> x.row(0, -1));
        finds("row(0, LOW)", x, SIZE, () -> x.row(0, LOW));
        asks("lay(5, 39, 7)", x, x.lay(5, 39, 7), 1, 0);
        asks("lay(5, 39, LOW)", x, x.lay(5, 39, LOW), 1, 7);
        asks("at(5, 39)", x, x.at(5, 39), 1, LOW);
        asks("at(5, 0)", x, x.at(5, 0), 1, 0);
        refuses("at(6, 0)", x, BAD, () -> x.at(6, 0));
        refuses("lay(-1, 0, 0)", x, BAD, () -> x.lay(-1, 0, 0));
        for (int i : new int[] {-1, 40, LOW, HIGH}) {
            finds("at beyond", x, BEYOND, () -> x.at(5, i));
            finds("lay beyond", x, BEYOND, () -> x.lay(5, i, 3));
        }
        finds("at(0, 0) of an empty row", x, BEYOND, () -> x.at(0, 0));
        due("row(5, 40) anew", x.row(5, 40), 40);
        asks("at(5, 39) anew", x, x.at(5, 39), 1, 0);
        due("tear(5)", x.tear(5), 1);
        finds("tear(5) again", x, NOTHING, () -> x.tear(5));
        refuses("tear(6)", x, BAD, () -> x.tear(6));
        due("rows there", x.count(6), 1);
    }

    // 6
    private static void copies() {
        MemoryGeese x = new MemoryGeese();
        Check.fill(x, 0, 1, 2, 3, 4, 5);
        Check.fill(x, 1, 9, 9, 9);
        due("copy", x.copy(0, 1, 1, 1, 2), 1);
        asks("copied", x, x.at(1, 0), 1, 9);
        asks("copied", x, x.at(1, 1), 1, 2);
        asks("copied", x, x.at(1, 2), 1, 3);
        due("copy within, up", x.copy(0, 0, 0, 1, 4), 1);
        int[] up = {1, 1, 2, 3, 4};
        for (int i = 0; i < 5; i++) asks("up", x, x.at(0, i), 1, up[i]);
        due("copy within, down", x.copy(0, 1, 0, 0, 4), 1);
        int[] down = {1, 2, 3, 4, 4};
        for (int i = 0; i < 5; i++) asks("down", x, x.at(0, i), 1, down[i]);
        due("copy none at the ends", x.copy(0, 5, 1, 3, 0), 1);
        refuses("copy BAD", x, BAD, () -> x.copy(6, 0, 1, 0, -1));
        refuses("copy BAD", x, BAD, () -> x.copy(0, 0, -1, 0, 1));
        finds("copy SIZE ahead of NOTHING", x, SIZE, () -> x.copy(0, 0, 2, 0, -1));
        finds("copy NOTHING to", x, NOTHING, () -> x.copy(0, 9, 2, 0, 1));
        finds("copy NOTHING from", x, NOTHING, () -> x.copy(2, 0, 0, 9, 1));
        finds("copy BEYOND from", x, BEYOND, () -> x.copy(0, 4, 1, 0, 2));
        finds("copy BEYOND to", x, BEYOND, () -> x.copy(0, 0, 1, 2, 2));
        finds("copy BEYOND", x, BEYOND, () -> x.copy(0, -1, 1, 0, 1));
        finds("copy BEYOND", x, BEYOND, () -> x.copy(0, 0, 1, -1, 1));
        finds("copy BEYOND", x, BEYOND, () -> x.copy(0, HIGH, 1, 0, HIGH));
        finds("copy BEYOND", x, BEYOND, () -> x.copy(0, 0, 1, 1, HIGH));
    }

    // 7
    private static void means() {
        MemoryGeese x = new MemoryGeese();
        finds("mean, no row", x, NOTHING, () -> x.mean(0));
        Check.fill(x, 0, 1, 2, 2);
        asks("mean", x, x.mean(0), 1, 1);
        Check.fill(x, 0, -1, -2, -2);
        asks("mean cut towards 0", x, x.mean(0), 1, -1);
        Check.fill(x, 0, HIGH, HIGH, HIGH);
        asks("mean of great ones", x, x.mean(0), 1, HIGH);
        Check.fill(x, 0, LOW, LOW);
        asks("mean of low ones", x, x.mean(0), 1, LOW);
        int[] forty = new int[40];
        java.util.Arrays.fill(forty, -3);
        Check.fill(x, 0, forty);
        asks("mean of 40", x, x.mean(0), 1, -3);
        x.row(0, 0);
        finds("mean of none", x, NOUGHT, () -> x.mean(0));
        refuses("mean BAD", x, BAD, () -> x.mean(6));
        refuses("mean BAD", x, BAD, () -> x.mean(-1));
    }

    // 8, 9
    private static void texts() {
        MemoryGeese x = new MemoryGeese();
        finds("put, no text", x, NOTHING, () -> x.put(3, 0, 1));
        due("text(3, 80)", x.text(3, 80), 80);
        due("text(0, 0)", x.text(0, 0), 0);
        refuses("text(4, 1)", x, BAD, () -> x.text(4, 1));
        refuses("text(-1, 1)", x, BAD, () -> x.text(-1, 1));
        refuses("text(0, 81)", x, BAD, () -> x.text(0, 81));
        refuses("text(4, -1)", x, BAD, () -> x.text(4, -1));
        finds("text(0, -1)", x, SIZE, () -> x.text(0, -1));
        due("put a blank away", x.put(3, 79, 200), 1032);
        due("put what was cut", x.put(3, 79, 256), 944);
        due("put what was cut", x.put(3, 79, -129), 1000);
        due("put what was cut", x.put(3, 79, -128), 1127);
        due("put what was cut", x.put(3, 79, 0), 872);
        refuses("put BAD", x, BAD, () -> x.put(4, 0, 1));
        for (int i : new int[] {-1, 80, LOW, HIGH}) finds("put beyond", x, BEYOND, () -> x.put(3, i, 1));
        due("text anew", x.text(3, 80), 80);
        due("a blank again", x.put(3, 79, 1), 1032);
        due("texts there", x.count(7), 2);
    }

    private static void fault(String text, int want) {
        MemoryGeese x = new MemoryGeese();
        Check.write(x, 2, text);
        due("fault of '" + text + "'", x.fault(2), want);
        due("no flock by '" + text + "'", x.count(0), 0);
        long digest = x.digest();
        if (want == NONE) return;
        due("flock of '" + text + "'", x.flock(2), STATE);
        due("digest behind '" + text + "'", x.digest(), digest);
    }

    // 10
    private static void faults() {
        String[] good = {"v0g10", "  v0  g10  ", "v01234501g89", SIX, "v0g10g10g10g10g10g10", "v0 g100a100",
            "v00000000g8076543210 "};
        for (String text : good) fault(text, NONE);
        for (String end : new String[] {"", "   ", "v", "v0", "v0  ", " v012345", "v0g", "v0g1", "v0g10a", "v0 g10 t8"}) {
            fault(end, end.length());
        }
        for (String end : new String[] {"", "v", "v0", "v01234501", "v0g", "v0g1", "v0g10g10g10g10g10g10g"}) {
            String whole = " ".repeat(80 - end.length()) + end;
            fault(whole, end.length() < 20 ? 80 : 79);
        }
        for (String end : new String[] {"v0g10", "v0g100", "v0g10g10g10g10g10g10", "v0g10 "}) {
            fault(" ".repeat(80 - end.length()) + end, NONE);
        }
        fault("w0g10", 0);
        fault("  g10", 2);
        fault("V0g10", 0);
        fault("v 0g10", 1);
        fault("vg10", 1);
        fault("v6g10", 1);
        fault("v0126g10", 4);
        fault("v012345012g10", 9);
        fault("v0 1g10", 3);
        fault("v0x10", 2);
        fault("v0G10", 2);
        fault("v0v10", 2);
        fault("v0g00", 3);
        fault("v0g90", 3);
        fault("v0g 0", 3);
        fault("v0g1 ", 4);
        fault("v0g1a", 4);
        fault("v0g101", 5);
        fault("v00g1001", 7);
        fault("v00g2000", 7);
        fault("v00g202", 6);
        fault("v00000000g808", 12);
        fault("v0g100 0", 7);
        fault("v0g10g10g10g10g10g10g10", 20);
        fault("v0g10g10g10g10g10g10 x", 21);
        MemoryGeese x = new MemoryGeese();
        finds("fault, no text", x, NOTHING, () -> x.fault(0));
        refuses("fault BAD", x, BAD, () -> x.fault(4));
        refuses("fault BAD", x, BAD, () -> x.fault(-1));
        Check.write(x, 0, "v0g10");
        x.put(0, 2, -25);
        due("fault of a negative byte", x.fault(0), 2);
    }

    // 11, 14
    private static void flocks() {
        MemoryGeese x = Check.flockOf(SIX);
        due("geese", x.count(0), 6);
        due("facts", x.count(1), 8);
        int[] places = {0, 0, 1, 2, 3, 4, 5, 5};
        for (int f = 0; f < 8; f++) due("place", x.place(f), places[f]);
        refuses("place(8)", x, BAD, () -> x.place(8));
        refuses("place(-1)", x, BAD, () -> x.place(-1));
        x.give(0, 7);
        x.eat(1, NONE);
        x.keep(1);
        finds("flock, no text", x, NOTHING, () -> x.flock(1));
        refuses("flock BAD", x, BAD, () -> x.flock(4));
        Check.write(x, 1, "v0 g1");
        refuses("flock with a fault", x, STATE, () -> x.flock(1));
        due("deeds stay", x.count(3), 2);
        due("kept stay", x.count(8), 1);
        Check.write(x, 1, "v54 h97");
        refuses("flock with a fault", x, STATE, () -> x.flock(1));
        Check.write(x, 1, "v54 h87");
        due("flock anew", x.flock(1), 1);
        due("facts anew", x.count(1), 2);
        due("no deeds", x.count(3), 0);
        due("none kept", x.count(8), 0);
        due("place anew", x.place(0), 5);
        refuses("place(2)", x, BAD, () -> x.place(2));
        finds("on, kept ones went", x, NOTHING, () -> x.on(1));
        due("flock once more", x.flock(0), 6);
        due("none gone", x.count(2), 6);
        x.put(0, 0, 0);
        due("a text changed later changes no flock", x.place(2), 1);
    }

    // 12
    private static void geese() {
        int[] first = {0, 4, 7, 3, 1, 0, 0};
        MemoryGeese y = Check.flockOf("v012 g4701 s80");
        for (int what = 0; what < 7; what++) asks("goose(0, " + what + ")", y, y.goose(0, what), 1, first[what]);
        int[] second = {5, 8, 0, 0, NONE, NONE, 0};
        for (int what = 0; what < 7; what++) asks("goose(1, " + what + ")", y, y.goose(1, what), 1, second[what]);
        y.eat(0, NONE);
        int[] gone = {0, 4, 7, 0, NONE, NONE, 1};
        for (int what = 0; what < 7; what++) asks("gone goose(0, " + what + ")", y, y.goose(0, what), 1, gone[what]);
        refuses("goose BAD", y, BAD, () -> y.goose(2, 0));
        refuses("goose BAD", y, BAD, () -> y.goose(-1, 0));
        refuses("goose BAD", y, BAD, () -> y.goose(0, 7));
        refuses("goose BAD", y, BAD, () -> y.goose(0, -1));
    }

    // 13
    private static void marks() {
        MemoryGeese x = Check.flockOf("v00125 a81012 t810124 h5101 l51012 s810234 g80");
        due("gander", x.mark(0, 1), 2);
        due("twin", x.mark(1, 2), 4);
        due("hen", x.mark(2, 3), 3);
        due("gosling as a hen", x.mark(3, 3), 2);
        due("gosling", x.mark(3, 4), 2);
        due("stray as a gander", x.mark(4, 1), 3);
        due("stray", x.mark(4, 5), 1);
        finds("goose is no gander", x, UNLIKE, () -> x.mark(5, 1));
        finds("gander is no stray", x, UNLIKE, () -> x.mark(0, 5));
        finds("hen is no gosling", x, UNLIKE, () -> x.mark(2, 4));
        finds("twin is no hen", x, UNLIKE, () -> x.mark(1, 3));
        finds("stray is no twin", x, UNLIKE, () -> x.mark(4, 2));
        refuses("mark KIND 0", x, BAD, () -> x.mark(5, 0));
        refuses("mark BAD", x, BAD, () -> x.mark(0, 6));
        refuses("mark BAD", x, BAD, () -> x.mark(0, -1));
        refuses("mark BAD", x, BAD, () -> x.mark(6, 1));
        x.give(3, 3);
        x.give(3, 4);
        due("a full gosling tells none", x.mark(3, 4), 5);
        due("a full gosling", x.mark(3, 3), 0);
        for (int i = 0; i < 5; i++) x.eat(i, NONE);
        int[][] all = {{0, 1}, {1, 2}, {2, 3}, {3, 3}, {3, 4}, {4, 1}, {4, 5}};
        for (int[] m : all) due("mark of one that is gone", x.mark(m[0], m[1]), 0);
        finds("gone, but unlike", x, UNLIKE, () -> x.mark(0, 3));
    }

    private static void order(String what, MemoryGeese x, int i, int oldest, int newest, int set) {
        asks(what + " oldest", x, x.goose(i, 5), 1, oldest);
        asks(what + " newest", x, x.goose(i, 4), 1, newest);
        asks(what + " set", x, x.goose(i, 3), 1, set);
    }

    // 15
    private static void gives() {
        MemoryGeese x = Check.flockOf("v0000 g3001 h10");
        due("give", x.give(0, 2), NONE);
        order("give", x, 0, 0, 2, 7);
        due("give one that it holds", x.give(0, 0), NONE);
        order("give again", x, 0, 1, 0, 7);
        due("give one too many", x.give(0, 3), 1);
        order("give one too many", x, 0, 2, 3, 13);
        due("give to one that holds one", x.give(1, 0), NONE);
        due("give to one that holds one", x.give(1, 0), NONE);
        due("give to one that holds one", x.give(1, 1), 0);
        due("deeds", x.count(3), 6);
        refuses("give BAD", x, BAD, () -> x.give(2, 0));
        refuses("give BAD", x, BAD, () -> x.give(0, 4));
        refuses("give BAD", x, BAD, () -> x.give(-1, 0));
        refuses("give BAD", x, BAD, () -> x.give(0, -1));
        x.eat(1, NONE);
        refuses("give to one gone", x, STATE, () -> x.give(1, 0));
        refuses("give BAD to one gone", x, BAD, () -> x.give(1, 4));
    }

    // 16
    private static void frights() {
        MemoryGeese x = Check.flockOf("v0000 g30201 h10");
        due("fright", x.fright(0), 1);
        due("fright", x.fright(0), 0);
        order("frightened", x, 0, 2, 2, 4);
        due("fright", x.fright(0), 2);
        due("fright of none", x.fright(0), NONE);
        due("is a deed", x.count(3), 4);
        refuses("fright BAD", x, BAD, () -> x.fright(2));
        refuses("fright BAD", x, BAD, () -> x.fright(-1));
        x.eat(0, NONE);
        refuses("fright of one gone", x, STATE, () -> x.fright(0));
    }

    // 17
    private static void mixes() {
        MemoryGeese x = Check.flockOf("v0000 g3201 h3223 a19 t10");
        due("same rank", x.mix(0, 1), 1);
        order("taker", x, 1, 2, 1, 14);
        order("giver", x, 0, 0, 1, 3);
        due("same rank, named the other way", x.mix(1, 0), 1);
        due("nothing held", x.mix(2, 0), NONE);
        due("nothing held", x.mix(0, 2), NONE);
        due("are deeds", x.count(3), 4);
        order("nothing given", x, 0, 0, 1, 3);
        due("lesser rank takes", x.mix(3, 1), 1);
        order("lesser rank", x, 3, 1, 1, 2);
        x.give(1, 3);
        due("oldest falls out", x.mix(1, 3), 3);
        order("fell out", x, 3, 3, 3, 8);
        refuses("mix BAD", x, BAD, () -> x.mix(1, 1));
        refuses("mix BAD", x, BAD, () -> x.mix(1, 4));
        refuses("mix BAD", x, BAD, () -> x.mix(-1, 1));
        x.eat(3, NONE);
        refuses("mix with one gone", x, STATE, () -> x.mix(1, 3));
        refuses("mix with one gone", x, STATE, () -> x.mix(3, 1));
        refuses("mix of one gone with itself", x, BAD, () -> x.mix(3, 3));
    }

    // 18
    private static void eats() {
        MemoryGeese x = Check.flockOf("v00000 g32012 h3334 a29 t101");
        due("eaten: the eater can't hold all", x.eat(0, 1), 2);
        order("eater", x, 1, 0, 2, 7);
        due("fact 1 only moved", x.holders(1), 10);
        due("eaten by a fox", x.eat(1, NONE), 4);
        asks("gone", x, x.goose(1, 6), 1, 1);
        due("alive", x.count(2), 2);
        refuses("eat BAD", x, BAD, () -> x.eat(2, 2));
        refuses("eat BAD", x, BAD, () -> x.eat(4, 2));
        refuses("eat BAD", x, BAD, () -> x.eat(2, 4));
        refuses("eat BAD", x, BAD, () -> x.eat(2, -1));
        refuses("eat BAD", x, BAD, () -> x.eat(NONE, NONE));
        refuses("eat one gone", x, STATE, () -> x.eat(0, 2));
        refuses("eaten by one gone", x, STATE, () -> x.eat(2, 0));
        refuses("fox, one gone", x, STATE, () -> x.eat(0, NONE));
        refuses("BAD ahead of STATE", x, BAD, () -> x.eat(0, 9));
        MemoryGeese z = Check.flockOf("v000 g30012 a292");
        due("eaten", z.eat(0, 1), 1);
        order("all of it, the oldest first", z, 1, 1, 2, 6);
    }

    // 19
    private static void undoes() {
        MemoryGeese x = Check.flockOf("v0000 g30012 h3112 a29");
        long[] digests = new long[7];
        digests[0] = x.digest();
        x.give(0, 3);
        digests[1] = x.digest();
        x.fright(1);
        digests[2] = x.digest();
        x.mix(0, 2);
        digests[3] = x.digest();
        x.eat(0, 2);
        digests[4] = x.digest();
        x.eat(1, NONE);
        digests[5] = x.digest();
        x.lots(1, 7);
        refuses("undo BAD", x, BAD, () -> x.undo(-1));
        refuses("undo BAD", x, BAD, () -> x.undo(x.count(3) + 1));
        refuses("undo none", x, 0, () -> x.undo(x.count(3)));
        int before = x.count(3);
        due("undo lots", x.undo(5), before - 5);
        due("as before 5", x.digest(), digests[5]);
        for (int n = 4; n >= 2; n--) {
            due("undo one", x.undo(n), 1);
            due("as before " + n, x.digest(), digests[n]);
        }
        due("undo two", x.undo(0), 2);
        due("as at first", x.digest(), digests[0]);
        due("undo of none", x.undo(0), 0);
    }

    // 20, 21
    private static void keeps() {
        MemoryGeese x = Check.flockOf("v0000 g30012 h3112 a29");
        finds("on, none kept", x, NOTHING, () -> x.on(0));
        refuses("on BAD", x, BAD, () -> x.on(3));
        refuses("on BAD", x, BAD, () -> x.on(-1));
        refuses("keep BAD", x, BAD, () -> x.keep(3));
        refuses("keep BAD", x, BAD, () -> x.keep(-1));
        due("keep none done", x.keep(2), 0);
        x.give(0, 3);
        x.eat(1, 0);
        due("keep", x.keep(0), 2);
        long two = x.digest();
        due("kept", x.count(8), 2);
        x.fright(0);
        due("on", x.on(0), 2);
        due("as it was kept", x.digest(), two);
        due("on", x.on(2), 0);
        due("deeds", x.count(3), 0);
        asks("back", x, x.goose(1, 6), 1, 0);
        due("on", x.on(0), 2);
        due("a kept one stays", x.digest(), two);
        due("undo what was kept", x.undo(1), 1);
        asks("undone", x, x.goose(1, 6), 1, 0);
        asks("not undone", x, x.goose(0, 4), 1, 3);
        due("the kept one is as it was", x.on(0), 2);
        due("keep over", x.keep(2), 2);
        x.undo(0);
        due("on over", x.on(2), 2);
        due("as kept over", x.count(2), 2);
        due("new object keeps none", new MemoryGeese().keep(0), STATE);
        due("new object BAD first", new MemoryGeese().keep(3), BAD);
    }

    private static void fullLog() {
        MemoryGeese x = Check.flockOf("v0000 g30012 h3112 a29");
        x.eat(2, NONE);
        for (int k = 1; k < 29; k++) x.fright(0);
        refuses("lots beyond 40", x, FULL, () -> x.lots(12, 1));
        due("lots to 40 at most", x.lots(11, 1) >= 0 ? 1 : 0, 1);
        for (int k = 0; k < 40; k++) x.fright(1);
        due("40 deeds", x.count(3), 40);
        refuses("give FULL", x, FULL, () -> x.give(0, 0));
        refuses("fright FULL", x, FULL, () -> x.fright(0));
        refuses("mix FULL", x, FULL, () -> x.mix(0, 1));
        refuses("eat FULL", x, FULL, () -> x.eat(0, 1));
        refuses("fox FULL", x, FULL, () -> x.eat(0, NONE));
        refuses("lots FULL", x, FULL, () -> x.lots(1, 1));
        refuses("lots BAD ahead of FULL", x, BAD, () -> x.lots(0, 1));
        refuses("STATE ahead of FULL", x, STATE, () -> x.fright(2));
        refuses("STATE ahead of FULL", x, STATE, () -> x.eat(0, 2));
        refuses("BAD ahead of FULL", x, BAD, () -> x.give(0, 4));
        due("keep 40", x.keep(0), 40);
        due("undo one", x.undo(39), 1);
        due("one more", x.fright(0), NONE);
    }

    // 22, 23, 24
    private static void tellings() {
        MemoryGeese y = Check.flockOf("v001525 g801032 a801032 t8042513 h50103 l51013 s8010325");
        int[] goose = {3, 4, 0, 0, 0, 8};
        int[] gander = {1, 4, 0, 0, 0, 8};
        int[] twin = {6, 20, 16, 0, 40, 42};
        int[] hen = {3, 0, 0, 0, 0, 8};
        int[] gosling = {2, 0, 0, 0, 0, 8};
        int[] stray = {0, 4, 0, 0, 0, 32};
        int[][] all = {goose, gander, twin, hen, gosling, stray};
        for (int i = 0; i < 6; i++) {
            int somewhere = 0;
            for (int p = 0; p < 6; p++) {
                due("tells(" + i + ", " + p + ")", y.tells(i, p), all[i][p]);
                somewhere |= all[i][p];
            }
            due("told by " + i, y.told(1 << i), somewhere);
        }
        due("told by none", y.told(0), 0);
        due("told by 0 and 5", y.told(33), 47);
        due("told by all", y.told(63), 63);
        refuses("tells BAD", y, BAD, () -> y.tells(6, 0));
        refuses("tells BAD", y, BAD, () -> y.tells(-1, 0));
        refuses("tells BAD", y, BAD, () -> y.tells(0, 6));
        refuses("tells BAD", y, BAD, () -> y.tells(0, -1));
        refuses("told BAD", y, BAD, () -> y.told(64));
        refuses("told BAD", y, BAD, () -> y.told(-1));
        asks("holders(0)", y, y.holders(0), 59, 1 | 2 | 8);
        asks("holders(1)", y, y.holders(1), 63, 1 | 4 | 8 | 16);
        asks("holders(4)", y, y.holders(4), 4, 4);
        refuses("holders BAD", y, BAD, () -> y.holders(6));
        refuses("holders BAD", y, BAD, () -> y.holders(-1));
        y.give(3, 2);
        y.give(3, 4);
        for (int p = 0; p < 6; p++) due("a full hen tells none", y.tells(3, p), 0);
        asks("holders(4)", y, y.holders(4), 12, 4);
        y.eat(2, NONE);
        for (int p = 0; p < 6; p++) due("one gone tells none", y.tells(2, p), 0);
        asks("holders(4)", y, y.holders(4), 8, 0);
    }

    // 25, 26
    private static void losses() {
        MemoryGeese x = Check.flockOf("v00001 g30 h2001 s403");
        asks("lost", x, x.lost(), 2, 2);
        asks("mute: a full hen, a stray at place 0", x, x.mute(), 0, 3);
        x.give(0, 1);
        asks("mute", x, x.mute(), 0, 2);
        x.give(0, 2);
        x.give(2, 4);
        x.undo(1);
        x.give(0, 0);
        asks("mute: a stray at place 0", x, x.mute(), 3, 1);
        x.give(0, 3);
        asks("no mute", x, x.mute(), NONE, 0);
        asks("lost", x, x.lost(), 2, 2);
        MemoryGeese y = Check.flockOf("v01 g301 a200");
        asks("none lost", y, y.lost(), NONE, 0);
        y.at(0, 0);
        y.eat(0, NONE);
        asks("lost 1", y, y.lost(), 1, 1);
    }

    private static void walkIs(MemoryGeese x, int i, int facts, int... places) {
        due("walk", x.walk(i, facts, 3), places.length);
        for (int k = 0; k < places.length; k++) asks("walk place", x, x.at(3, k), 1, places[k]);
        finds("walk's row ends", x, BEYOND, () -> x.at(3, places.length));
    }

    // 27
    private static void walks() {
        MemoryGeese x = Check.flockOf("v01234551 g80012345 t8001234567 a80567 h8056 t80036");
        walkIs(x, 0, 63, 0, 1, 2, 3, 4, 5);
        walkIs(x, 0, 0);
        walkIs(x, 0, 1 | 32, 0, 5);
        due("seventh", x.walk(0, 64, 3), NONE);
        finds("the row stays", x, BEYOND, () -> x.at(3, 2));
        walkIs(x, 1, 255, 0, 2, 4);
        walkIs(x, 1, 1 | 32, 5);
        walkIs(x, 1, 1 | 2 | 4, 0, 1);
        walkIs(x, 1, 2 | 4 | 8, 0, 2);
        walkIs(x, 1, 8, 2);
        walkIs(x, 2, 128 | 64, 1, 5);
        due("an older one isn't told", x.walk(2, 32, 3), NONE);
        walkIs(x, 3, 32 | 64, 5);
        walkIs(x, 4, 1 | 64, 5);
        walkIs(x, 4, 9, 0, 2);
        refuses("walk BAD", x, BAD, () -> x.walk(5, 0, 0));
        refuses("walk BAD", x, BAD, () -> x.walk(0, 256, 0));
        refuses("walk BAD", x, BAD, () -> x.walk(0, -1, 0));
        refuses("walk BAD", x, BAD, () -> x.walk(0, 0, 6));
        refuses("walk BAD", x, BAD, () -> x.walk(0, 0, -1));
        x.eat(0, NONE);
        walkIs(x, 0, 0);
        due("one gone", x.walk(0, 1, 3), NONE);
        x.walk(1, 255, 0);
        due("a new row", x.count(6), 2);
    }

    // 28, 29
    private static void crews() {
        MemoryGeese x = Check.flockOf("v012345 g8001 g8012 g8023 g80345 g805 a80012345");
        asks("crew", x, x.crew(63), 1, 32);
        due("least", x.least(63), 6);
        x.eat(5, NONE);
        asks("crew", x, x.crew(63), 3, 1 | 2 | 8);
        asks("crew(0)", x, x.crew(0), 0, 0);
        asks("crew(4)", x, x.crew(4), 1, 2);
        asks("crew(6)", x, x.crew(6), 1, 2);
        asks("crew(5)", x, x.crew(5), 2, 3);
        due("least", x.least(63), 6);
        due("least(0)", x.least(0), 0);
        x.eat(3, NONE);
        refuses("crew NONE", x, NONE, () -> x.crew(16));
        refuses("least NONE", x, NONE, () -> x.least(16));
        refuses("crew BAD", x, BAD, () -> x.crew(64));
        refuses("crew BAD", x, BAD, () -> x.crew(-1));
        refuses("least BAD", x, BAD, () -> x.least(64));
        refuses("least BAD", x, BAD, () -> x.least(-1));
        MemoryGeese all = Check.flockOf("v0123455" + "g80012345".repeat(5) + "g800123456");
        due("least, all geese tell everywhere", all.least(64), 1);
        due("least, all geese tell everywhere", all.least(127), 6);
        MemoryGeese y = Check.flockOf("v00112233 t8001234567 a8021 g80");
        due("least by a twin", y.least(255), 2);
        due("least by a twin", y.least(4 | 8 | 16), 1);
        y.eat(0, NONE);
        due("least of a gander", y.least(6), 2);
        due("least of a gander", y.least(2), 1);
    }

    // 30
    private static void risks() {
        MemoryGeese x = Check.flockOf("v000000 g8001 g8123 g8145 h8051");
        asks("risk", x, x.risk(), 1 | 4 | 8 | 16, 1);
        x.give(2, 0);
        x.give(0, 2);
        asks("risk", x, x.risk(), 8 | 16, 1);
        x.give(0, 3);
        asks("risk", x, x.risk(), 16, 2);
        x.give(3, 4);
        asks("risk of none", x, x.risk(), 0, NONE);
        x.eat(3, NONE);
        asks("risk", x, x.risk(), 2 | 16 | 32, 2);
    }

    // 31
    private static void safety() {
        due("all twice", Check.flockOf("v00 g2001 g2001").safe(), 0);
        due("one missing", Check.flockOf("v00 g2001 g200").safe(), 1);
        due("no room", Check.flockOf("v00 g2001 g100").safe(), NONE);
        due("nobody holds", Check.flockOf("v00 g20 g20").safe(), 4);
        due("one goose alone", Check.flockOf("v0 g80").safe(), NONE);
        due("room, but of those that hold it", Check.flockOf("v00 g8001 g100 h20").safe(), 1);
        due("room of the wrong one", Check.flockOf("v00 g8001 g10").safe(), NONE);
        due("both must spread", Check.flockOf("v000 g30 g20 g10").safe(), 6);
        due("both can't spread", Check.flockOf("v000 g40 g10 g10").safe(), NONE);
        MemoryGeese x = Check.flockOf("v00 g2001 g2001 h20");
        long digest = x.digest();
        due("safe", x.safe(), 0);
        x.eat(0, NONE);
        due("gone take none", x.safe(), 2);
        x.eat(2, NONE);
        due("gone take none", x.safe(), NONE);
        x.eat(1, NONE);
        due("all gone", x.safe(), NONE);
        x.undo(0);
        due("aside", x.digest(), digest);
    }

    // 32
    private static void shares() {
        MemoryGeese x = Check.flockOf("v0012 g80012 a80012 h802 h10 g80");
        ratio("share", x, x.share(0), 1 * 6 + 3 + 2, 6);
        ratio("share", x, x.share(1), 5, 6);
        ratio("share", x, x.share(2), 1, 3);
        ratio("share of one that tells none", x, x.share(3), 0, 1);
        ratio("share", x, x.share(4), 0, 1);
        refuses("share BAD", x, BAD, () -> x.share(5));
        refuses("share BAD", x, BAD, () -> x.share(-1));
        x.eat(0, 4);
        ratio("share of one gone", x, x.share(0), 0, 1);
        ratio("share of the eater", x, x.share(4), 11, 6);
    }

    // 33
    private static void helds() {
        MemoryGeese x = Check.flockOf("v012 g31 a31 t24 h21 l31 s31");
        Check.fill(x, 0, 0, 0);
        ratio("none of place 0", x, x.held(0, 0), 5, 1);
        Check.fill(x, 0, 0, 1, 0, 1);
        ratio("said twice", x, x.held(0, 0), 16 - 5, 1);
        Check.fill(x, 0, 0, 1, 0, 0);
        ratio("said unlike", x, x.held(0, 0), 0, 1);
        Check.fill(x, 0, 0, 1, 5, 0);
        ratio("hen: only if not full", x, x.held(3, 0), 1, 1);
        Check.fill(x, 0, 0, 0);
        ratio("hen: full or without", x, x.held(3, 0), 1 + 2 + 6, 1);
        ratio("stray: none at 0 ever", x, x.held(5, 0), 16, 1);
        Check.fill(x, 0, 1, 2);
        ratio("gosling", x, x.held(4, 0), 1 + 4, 1);
        Check.fill(x, 0, 2, 4);
        ratio("gosling tells no even one", x, x.held(4, 0), 0, 1);
        Check.fill(x, 0, 1, 6);
        ratio("twin", x, x.held(2, 0), 2, 1);
        x.row(0, 0);
        ratio("nothing said", x, x.held(2, 0), 10, 1);
        Check.fill(x, 0, 6, 0);
        finds("no place", x, UNLIKE, () -> x.held(0, 0));
        Check.fill(x, 0, -1, 0);
        finds("no place", x, UNLIKE, () -> x.held(0, 0));
        Check.fill(x, 0, 0, 8);
        finds("no set", x, UNLIKE, () -> x.held(0, 0));
        Check.fill(x, 0, 0, -1);
        finds("no set", x, UNLIKE, () -> x.held(0, 0));
        Check.fill(x, 0, 9, 9, 9);
        finds("no pairs", x, SIZE, () -> x.held(0, 0));
        finds("no row", x, NOTHING, () -> x.held(0, 1));
        refuses("held BAD", x, BAD, () -> x.held(6, 0));
        refuses("held BAD", x, BAD, () -> x.held(0, 6));
        refuses("held BAD", x, BAD, () -> x.held(0, -1));
        MemoryGeese y = Check.flockOf("v00000000 g50 g40 a40");
        refuses("more than 4 ahead of NOTHING", y, STATE, () -> y.held(0, 0));
        refuses("BAD ahead of STATE", y, BAD, () -> y.held(0, 6));
        y.row(0, 0);
        ratio("all rows", y, y.held(1, 0), 1 + 8 + 56 + 336 + 1680, 1);
        Check.fill(y, 0, 0, 1);
        ratio("gander: the newest", y, y.held(2, 0), 1 + 7 + 42 + 210, 1);
        y.eat(2, NONE);
        ratio("gone or not", y, y.held(2, 0), 260, 1);
        int[] forty = new int[40];
        for (int k = 0; k < 40; k += 2) forty[k] = 1 + k % 5;
        Check.fill(y, 0, forty);
        ratio("20 pairs", y, y.held(1, 0), 2081, 1);
        due("20 pairs", y.kinds(1, 0), 63);
        y.lay(0, 39, 1);
        ratio("the last pair", y, y.held(1, 0), 0, 1);
        due("the last pair", y.kinds(1, 0), 0);
    }

    // 34
    private static void kindsOf() {
        MemoryGeese x = Check.flockOf("v001 g8001 h2110 g83012");
        x.row(0, 0);
        due("any kind", x.kinds(0, 0), 63);
        Check.fill(x, 0, 0, 3);
        due("goose, twin, hen", x.kinds(0, 0), 1 | 4 | 8);
        Check.fill(x, 0, 0, 2);
        due("gander, gosling", x.kinds(0, 0), 2 | 16);
        due("another order", x.kinds(1, 0), 0);
        Check.fill(x, 0, 0, 1);
        due("gander by its order", x.kinds(1, 0), 2);
        Check.fill(x, 0, 0, 0);
        due("stray", x.kinds(0, 0), 32);
        due("full hens, stray", x.kinds(1, 0), 8 | 16 | 32);
        Check.fill(x, 0, 5, 3);
        due("twin", x.kinds(2, 0), 4);
        Check.fill(x, 0, 5, 0, 1, 4);
        due("not by a twin, a gosling", x.kinds(2, 0), 1 | 2 | 8 | 32);
        Check.fill(x, 0, 0, 3, 0, 2);
        due("said unlike", x.kinds(0, 0), 0);
        finds("no row", x, NOTHING, () -> x.kinds(0, 1));
        Check.fill(x, 0, 7, 7, 7);
        finds("no pairs", x, SIZE, () -> x.kinds(0, 0));
        Check.fill(x, 0, 0, 8);
        finds("no set", x, UNLIKE, () -> x.kinds(0, 0));
        Check.fill(x, 0, 0, 0, 6, 0);
        finds("no place", x, UNLIKE, () -> x.kinds(0, 0));
        refuses("kinds BAD", x, BAD, () -> x.kinds(3, 0));
        refuses("kinds BAD", x, BAD, () -> x.kinds(0, 6));
        x.eat(0, NONE);
        Check.fill(x, 0, 0, 0);
        due("one gone tells nothing", x.kinds(0, 0), 63);
        Check.fill(x, 0, 0, 3);
        due("one gone tells nothing", x.kinds(0, 0), 0);
    }

    // 35, 36
    private static void springs() {
        MemoryGeese x = Check.flockOf("v000 g8001 g801 h10");
        ratio("one of one", x, x.odds(1, 6), 1, 2);
        ratio("one of two", x, x.odds(2, 6), 3, 4);
        ratio("both", x, x.odds(3, 6), 1, 2);
        ratio("nobody holds", x, x.odds(4, 12), 0, 1);
        ratio("empty set", x, x.odds(0, 0), 1, 1);
        ratio("never", x, x.odds(1, 0), 0, 1);
        ratio("surely", x, x.odds(3, 12), 1, 1);
        ratio("by 5", x, x.odds(2, 5), 144 - 49, 144);
        ratio("mid", x, x.mid(6), 5, 4);
        ratio("mid never", x, x.mid(0), 0, 1);
        ratio("mid surely", x, x.mid(12), 2, 1);
        refuses("odds BAD", x, BAD, () -> x.odds(8, 1));
        refuses("odds BAD", x, BAD, () -> x.odds(-1, 1));
        refuses("odds BAD", x, BAD, () -> x.odds(0, 13));
        refuses("odds BAD", x, BAD, () -> x.odds(0, -1));
        refuses("mid BAD", x, BAD, () -> x.mid(13));
        refuses("mid BAD", x, BAD, () -> x.mid(-1));
        x.eat(0, NONE);
        ratio("gone don't come back", x, x.odds(3, 12), 0, 1);
        ratio("gone don't come back", x, x.odds(2, 4), 1, 3);
        ratio("gone don't come back", x, x.mid(4), 1, 3);
    }

    // 37
    private static void lotteries() {
        MemoryGeese x = Check.flockOf("v00000 g3001 a30 t30123");
        MemoryGeese y = Check.flockOf("v00000 g3001 a30 t30123");
        y.eat(1, NONE);
        x.eat(1, NONE);
        long lot = 2147483646L;
        int deeds = 1;
        for (int k = 0; k < 12; k++) {
            lot = lot * 48271L % 2147483647L;
            int i = (int) (lot % 3);
            if (i == 1) continue;
            deeds++;
            if (lot / 8 % 4 == 0) y.fright(i);
            else y.give(i, (int) (lot / 64 % 5));
        }
        int lost = y.lost() == NONE ? 0 : y.asked();
        due("lots", x.lots(12, 2147483646), lost);
        due("lots are deeds", x.count(3), deeds);
        due("as done one by one", x.digest(), y.digest());
        due("lots are undone", x.undo(1), deeds - 1);
        refuses("lots BAD", x, BAD, () -> x.lots(0, 1));
        refuses("lots BAD", x, BAD, () -> x.lots(13, 1));
        refuses("lots BAD", x, BAD, () -> x.lots(1, 0));
        refuses("lots BAD", x, BAD, () -> x.lots(1, HIGH));
        refuses("lots BAD", x, BAD, () -> x.lots(1, -5));
        x.eat(0, NONE);
        x.eat(2, NONE);
        due("all gone", x.lots(12, 1), 5);
        due("no deeds", x.count(3), 3);
        due("STATE ahead of FULL", new MemoryGeese().lots(12, 1), STATE);
        MemoryGeese z = Check.flockOf("v0 g10");
        due("the first number comes from the seed", z.lots(1, 1), 48271 / 8 % 4 == 0 ? 1 : 0);
    }

    // 38, 39, 40
    private static void asking() {
        MemoryGeese x = Check.flockOf("v01 g210 a10");
        x.lost();
        due("asked by lost", x.asked(), 1);
        x.keep(0);
        x.tells(0, 0);
        x.safe();
        x.share(0);
        due("asked stays", x.asked(), 1);
        x.odds(1, 3);
        due("upper", x.upper(), 1);
        due("lower", x.lower(), 4);
        x.at(0, 0);
        x.odds(99, 3);
        due("upper stays", x.upper(), 1);
        due("lower stays", x.lower(), 4);
        due("asked stays", x.asked(), 1);
    }

    // 41
    private static void counts() {
        MemoryGeese x = Check.flockOf(SIX);
        x.row(0, 1);
        x.row(5, 0);
        x.text(3, 0);
        x.give(0, 1);
        x.eat(4, NONE);
        x.eat(5, NONE);
        x.keep(0);
        int[] want = {6, 8, 4, 3, 2, 2, 2, 2, 1};
        for (int what = 0; what < 9; what++) due("count " + what, x.count(what), want[what]);
        refuses("count BAD", x, BAD, () -> x.count(9));
        refuses("count BAD", x, BAD, () -> x.count(-1));
    }

    // 42, 43
    private static void findingsTold() {
        MemoryGeese x = new MemoryGeese();
        x.at(0, 0);
        x.row(0, -1);
        x.row(0, 0);
        x.mean(0);
        x.at(0, 0);
        x.at(1, 0);
        x.row(9, 9);
        due("finding", x.finding(), NOTHING);
        int[] want = {2, 1, 0, 1, 1};
        for (int f = 1; f <= 5; f++) due("findings " + f, x.findings(f), want[f - 1]);
        refuses("findings BAD", x, BAD, () -> x.findings(0));
        refuses("findings BAD", x, BAD, () -> x.findings(6));
        refuses("findings BAD", x, BAD, () -> x.findings(LOW));
    }

    private static long hashOf(long... values) {
        long h = 17;
        for (long v : values) h = 31 * h + v;
        return h;
    }

    // 44
    private static void digests() {
        due("digest of a new object", new MemoryGeese().digest(),
            hashOf(0, 0, 0, 0, 0, 0, 0, 0, 0, -1, -1, -1, -1, -1, -1, -1, -1, -1, -1, -1, -1, -1));
        MemoryGeese x = Check.flockOf("v53g3410s19");
        x.give(0, 1);
        x.eat(1, NONE);
        x.keep(1);
        Check.fill(x, 2, -7, 5);
        x.put(0, 10, 255);
        due("digest", x.digest(), hashOf(
            2, 2, 1, 2, 1, 0, 1, 1, 1,
            5, 3,
            0, 3, 4, 3, 1, 0, 0, 0, 1,
            5, 1, 9, 0, -9, -9, 1,
            -1, 2, -1,
            -1, -1, 2, -7, 5, -1, -1, -1,
            11, 118, 53, 51, 103, 51, 52, 49, 48, 115, 49, -1,
            -1, -1, -1));
        due("digest asks nothing", x.asked(), 0);
    }
}
