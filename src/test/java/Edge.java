import java.util.Arrays;
import java.util.function.IntSupplier;

/** Checks at the edges of promises: each is counted for its promise, and a refusal must leave everything else as it was. */
final class Edge {
    static final int BAD = -1, FULL = -2, FINDING = -3, STATE = -4, NONE = -9;
    static final int NOTHING = 1, BEYOND = 2, UNLIKE = 3, NOUGHT = 4, SIZE = 5;
    static final int LOW = Integer.MIN_VALUE, HIGH = Integer.MAX_VALUE;
    private static final int PROMISES = 44, FINDINGS_SEEN_FROM = 12;

    interface Call {
        int of(MemoryGeese x, int... a);
    }

    private final Check check;
    private final int[] checks = new int[PROMISES + 1];
    private int promise;

    Edge(String name) {
        check = new Check(name);
    }

    /** What follows is due by this promise. */
    void by(int number) {
        promise = number;
    }

    void end(int... promises) {
        for (int n : promises) check.holds("promise " + n + " has edges here", checks[n] > 0);
        check.end();
    }

    void due(String what, long got, long want) {
        checks[promise]++;
        check.due("promise " + promise + ": " + what, got, want);
    }

    void asks(String what, MemoryGeese x, int answer, int wantAnswer, int wantAsked) {
        due(what, answer, wantAnswer);
        due(what + ", asked", x.asked(), wantAsked);
    }

    void ratio(String what, MemoryGeese x, int answer, long upper, long lower) {
        due(what, answer, 1);
        due(what + ", upper", x.upper(), upper);
        due(what + ", lower", x.lower(), lower);
    }

    /** All that can be told without changing something; findings() last. */
    private static long[] seen(MemoryGeese x) {
        long[] all = new long[18];
        int n = 0;
        all[n++] = x.asked();
        all[n++] = x.upper();
        all[n++] = x.lower();
        all[n++] = x.digest();
        for (int what = 0; what <= 8; what++) all[n++] = x.count(what);
        for (int f = 1; f <= 5; f++) all[n++] = x.findings(f);
        return all;
    }

    void unchanged(String what, MemoryGeese x, int answer, IntSupplier call) {
        long[] before = seen(x);
        int finding = x.finding();
        due(what, call.getAsInt(), answer);
        due(what + " changes nothing", Arrays.equals(before, seen(x)) ? 1 : 0, 1);
        due(what + " is no finding", x.finding(), finding);
    }

    void bad(String what, MemoryGeese x, IntSupplier call) {
        unchanged(what + " is BAD", x, BAD, call);
    }

    void state(String what, MemoryGeese x, IntSupplier call) {
        unchanged(what + " is STATE", x, STATE, call);
    }

    void full(String what, MemoryGeese x, IntSupplier call) {
        unchanged(what + " is FULL", x, FULL, call);
    }

    void none(String what, MemoryGeese x, IntSupplier call) {
        unchanged(what + " is NONE", x, NONE, call);
    }

    /** Only finding() and findings() of this one change. */
    void finds(String what, MemoryGeese x, int f, IntSupplier call) {
        long[] want = seen(x);
        want[FINDINGS_SEEN_FROM + f]++;
        due(what, call.getAsInt(), FINDING);
        due(what + ", finding", x.finding(), f);
        due(what + " changes findings() alone", Arrays.equals(want, seen(x)) ? 1 : 0, 1);
    }

    void rowIs(String what, MemoryGeese x, int r, int... want) {
        for (int i = 0; i < want.length; i++) asks(what + " at " + i, x, x.at(r, i), 1, want[i]);
        finds(what + " ends", x, BEYOND, () -> x.at(r, want.length));
    }

    /** What a goose holds, the oldest first; it is frightened until it holds none to see that, and that is undone. */
    void holds(String what, MemoryGeese x, int i, int... facts) {
        int set = 0;
        for (int f : facts) set |= 1 << f;
        asks(what + ": set", x, x.goose(i, 3), 1, set);
        asks(what + ": newest", x, x.goose(i, 4), 1, facts.length == 0 ? NONE : facts[facts.length - 1]);
        asks(what + ": oldest", x, x.goose(i, 5), 1, facts.length == 0 ? NONE : facts[0]);
        int deeds = x.count(3);
        for (int k = facts.length - 1; k >= 0; k--) due(what + ": in its order", x.fright(i), facts[k]);
        x.undo(deeds);
    }

    /** Frightens one until so many deeds are done; no more than 40 times, so that a broken class fails and doesn't hang. */
    void frightUpTo(MemoryGeese x, int deeds, int i) {
        for (int k = 0; k < 40 && x.count(3) < deeds; k++) x.fright(i);
        due("deeds", x.count(3), deeds);
    }

    /** Argument k of such a call in a village may be least to most, and is BAD outside. */
    void range(int number, Call call, int k, int least, int most, int... args) {
        by(number);
        for (int v : new int[] {LOW, least - 1, most + 1, HIGH}) {
            if (v >= least && v <= most) continue;
            MemoryGeese x = village();
            int[] a = with(args, k, v);
            bad(Arrays.toString(a), x, () -> call.of(x, a));
        }
        for (int v : new int[] {least, most}) {
            int[] a = with(args, k, v);
            due(Arrays.toString(a) + " isn't BAD", call.of(village(), a) == BAD ? 1 : 0, 0);
        }
    }

    private static int[] with(int[] args, int k, int v) {
        int[] changed = args.clone();
        changed[k] = v;
        return changed;
    }

    /** Three geese, four facts, two deeds, every row, text and kept flock there. */
    static MemoryGeese village() {
        MemoryGeese x = new MemoryGeese();
        for (int t = 0; t < 4; t++) Check.write(x, t, "v0123 g4501 s332 h2112");
        x.flock(0);
        for (int r = 0; r < 6; r++) Check.fill(x, r, 0, 1, 2, 0);
        x.give(0, 2);
        x.give(1, 3);
        for (int k = 0; k < 3; k++) x.keep(k);
        return x;
    }

    /** Such a flock, which must be one. */
    MemoryGeese flock(String text) {
        MemoryGeese x = new MemoryGeese();
        Check.write(x, 0, text);
        check.due("fault of '" + text + "'", x.fault(0), NONE);
        x.flock(0);
        return x;
    }
}
