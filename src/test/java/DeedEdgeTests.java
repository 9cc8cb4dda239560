import java.util.function.IntUnaryOperator;

/** Edges of the promises 15 to 21 and 37: deeds, undoing, keeping, lots. */
public final class DeedEdgeTests {
    private static final int NONE = Edge.NONE, NOTHING = Edge.NOTHING;
    private static final Edge E = new Edge("DeedEdgeTests");

    public static void main(String[] args) {
        ranges();
        gives();
        frights();
        mixes();
        mixesOfFullOnes();
        meals();
        refusedDeeds();
        goneForGood();
        fortyDeeds();
        undoing();
        undoingEachDeed();
        keeping();
        goingOn();
        lots();
        lotsOfSeeds();
        lotsUpToForty();
        E.end(15, 16, 17, 18, 19, 20, 21, 37);
    }

    private static void ranges() {
        E.range(15, (x, a) -> x.give(a[0], a[1]), 0, 0, 2, 0, 0);
        E.range(15, (x, a) -> x.give(a[0], a[1]), 1, 0, 3, 0, 0);
        E.range(16, (x, a) -> x.fright(a[0]), 0, 0, 2, 0);
        E.range(17, (x, a) -> x.mix(a[0], a[1]), 0, 0, 2, 0, 1);
        E.range(17, (x, a) -> x.mix(a[0], a[1]), 1, 0, 2, 1, 0);
        E.range(18, (x, a) -> x.eat(a[0], a[1]), 0, 0, 2, 0, 1);
        E.range(18, (x, a) -> x.eat(a[0], a[1]), 1, 0, 2, 1, 0);
        E.range(19, (x, a) -> x.undo(a[0]), 0, 0, 2, 0);
        E.range(20, (x, a) -> x.keep(a[0]), 0, 0, 2, 0);
        E.range(21, (x, a) -> x.on(a[0]), 0, 0, 2, 0);
        E.range(37, (x, a) -> x.lots(a[0], a[1]), 0, 1, 12, 5, 7);
        E.range(37, (x, a) -> x.lots(a[0], a[1]), 1, 1, 2147483646, 5, 7);
    }

    private static void gives() {
        E.by(15);
        MemoryGeese x = E.flock("v01234501 g10 g30012 g8001234567");
        E.due("to one that holds none", x.give(0, 7), NONE);
        E.due("the only one again", x.give(0, 7), NONE);
        E.due("the only one falls out", x.give(0, 6), 7);
        E.holds("one", x, 0, 6);
        E.due("the newest again", x.give(1, 2), NONE);
        E.holds("as it was", x, 1, 0, 1, 2);
        E.due("the middle one again", x.give(1, 1), NONE);
        E.holds("becomes the newest", x, 1, 0, 2, 1);
        E.due("the oldest again", x.give(1, 0), NONE);
        E.holds("becomes the newest", x, 1, 2, 1, 0);
        E.due("one too many", x.give(1, 5), 2);
        E.holds("the oldest fell out", x, 1, 1, 0, 5);
        E.due("one who holds all", x.give(2, 0), NONE);
        E.holds("all", x, 2, 1, 2, 3, 4, 5, 6, 7, 0);
        E.due("each is a deed", x.count(3), 8);
    }

    private static void frights() {
        E.by(16);
        MemoryGeese x = E.flock("v00 g2010 h10");
        E.due("the newest of two", x.fright(0), 0);
        E.holds("one left", x, 0, 1);
        E.due("the last one", x.fright(0), 1);
        E.holds("none left", x, 0);
        E.due("held none", x.fright(0), NONE);
        E.due("held none ever", x.fright(1), NONE);
        E.due("each is a deed, also of one that held none", x.count(3), 4);
    }

    private static void mixes() {
        E.by(17);
        for (String ranks : new String[] {"98", "10", "55", "00", "90", "99"}) {
            for (int first = 0; first < 2; first++) {
                MemoryGeese x = E.flock("v000 g3" + ranks.charAt(0) + "01 h3" + ranks.charAt(1) + "2");
                E.due("greater or same rank, lesser number: " + ranks, x.mix(first, 1 - first), 1);
                E.holds("the giver holds it still", x, 0, 0, 1);
                E.holds("the taker", x, 1, 2, 1);
                MemoryGeese y = E.flock("v000 g3" + ranks.charAt(1) + "01 h3" + ranks.charAt(0) + "2");
                if (ranks.charAt(0) == ranks.charAt(1)) continue;
                E.due("greater rank, greater number: " + ranks, y.mix(first, 1 - first), 2);
                E.holds("the taker", y, 0, 0, 1, 2);
                E.holds("the giver holds it still", y, 1, 2);
            }
        }
        MemoryGeese z = E.flock("v000 g39 h3012");
        E.due("the giver holds none", z.mix(0, 1), NONE);
        E.due("the giver holds none", z.mix(1, 0), NONE);
        E.holds("nothing given", z, 0);
        E.holds("nothing given", z, 1, 1, 2);
        E.due("but deeds", z.count(3), 2);
    }

    private static void mixesOfFullOnes() {
        E.by(17);
        MemoryGeese x = E.flock("v0000 g190 h101 l3002 s2013");
        E.due("the only one falls out", x.mix(1, 0), 0);
        E.holds("full taker", x, 1, 0);
        E.due("one held already becomes the newest", x.mix(0, 2), 0);
        E.holds("taker", x, 2, 2, 0);
        E.due("the oldest falls out", x.mix(3, 0), 0);
        E.holds("full taker", x, 3, 3, 0);
        E.due("each is a deed", x.count(3), 3);
    }

    private static void meals() {
        E.by(18);
        E.due("by a fox", E.flock("v0123 g40012 h23 a13").eat(0, NONE), 4);
        MemoryGeese x = E.flock("v0123 g40012 h4031 a13");
        E.due("by one who can hold all", x.eat(0, 1), 0);
        E.holds("the oldest first, one held becomes newer", x, 1, 3, 0, 1, 2);
        E.holds("gone", x, 0);
        MemoryGeese y = E.flock("v0123 g40012 h2031 a13");
        E.due("by one who can't hold all", y.eat(0, 1), 2);
        E.holds("the newest stay", y, 1, 1, 2);
        MemoryGeese z = E.flock("v01234501 g8001234567 g10");
        E.due("eight by one that holds one at most", z.eat(0, 1), 7);
        E.holds("the newest", z, 1, 7);
        MemoryGeese w = E.flock("v0123 g4001 h20 a13");
        E.due("one who holds none by another", w.eat(1, 0), 2);
        E.holds("the eater", w, 0, 0, 1);
        E.due("the last but one", w.eat(2, 0), 2);
        E.due("the last by a fox", w.eat(0, NONE), 4);
        E.due("none is left", w.count(2), 0);
        E.due("each is a deed", w.count(3), 3);
    }

    private static void refusedDeeds() {
        MemoryGeese x = E.flock("v01 g201 h20 a100");
        x.eat(1, NONE);
        E.by(15);
        E.state("give to one gone", x, () -> x.give(1, 1));
        E.bad("BAD ahead of STATE", x, () -> x.give(1, 2));
        E.by(16);
        E.state("fright of one gone", x, () -> x.fright(1));
        E.by(17);
        E.state("mix of one gone", x, () -> x.mix(1, 0));
        E.state("mix with one gone", x, () -> x.mix(0, 1));
        E.bad("one gone with itself", x, () -> x.mix(1, 1));
        E.bad("one with itself", x, () -> x.mix(0, 0));
        E.bad("BAD ahead of STATE", x, () -> x.mix(1, 3));
        E.bad("BAD ahead of STATE", x, () -> x.mix(3, 1));
        E.bad("no mixing with a fox", x, () -> x.mix(0, NONE));
        E.by(18);
        E.state("one gone by another", x, () -> x.eat(1, 0));
        E.state("one by one gone", x, () -> x.eat(0, 1));
        E.state("one gone by a fox", x, () -> x.eat(1, NONE));
        E.bad("one gone by itself", x, () -> x.eat(1, 1));
        E.bad("one by itself", x, () -> x.eat(0, 0));
        E.bad("BAD ahead of STATE", x, () -> x.eat(1, 3));
        E.bad("BAD ahead of STATE", x, () -> x.eat(3, 1));
        for (int by : new int[] {-1, -8, -10, 15}) E.bad("no fox is " + by, x, () -> x.eat(0, by));
        E.bad("a fox is not eaten", x, () -> x.eat(NONE, 0));
        E.bad("a fox is not eaten by a fox", x, () -> x.eat(NONE, NONE));
    }

    /** "A GOOSE that is GONE HOLDS nothing, TELLS nothing, for good". */
    private static void goneForGood() {
        E.by(18);
        MemoryGeese x = E.flock("v01 g801 g80");
        x.eat(0, NONE);
        x.lots(12, 4711);
        x.give(1, 0);
        x.mix(1, 0);
        E.asks("gone still", x, x.goose(0, 6), 1, 1);
        E.asks("holds nothing", x, x.goose(0, 3), 1, 0);
        for (int p = 0; p < 6; p++) E.due("tells nothing", x.tells(0, p), 0);
    }

    private static int done(MemoryGeese x, int number, int i, int other) {
        if (number == 15) return x.give(i, other);
        if (number == 16) return x.fright(i);
        return number == 17 ? x.mix(i, other) : x.eat(i, other);
    }

    /** "(40 at most)": of each sort the 40th is done, the 41st is refused; BAD, STATE, FULL in this order. */
    private static void fortyDeeds() {
        for (int number = 15; number <= 18; number++) {
            int n = number;
            E.by(n);
            MemoryGeese x = E.flock("v01 g201 g201 h20 a100 g10");
            x.eat(4, NONE);
            E.frightUpTo(x, 39, 2);
            done(x, n, 3, 0);
            E.due("the 40th is done", x.count(3), 40);
            E.full("the 41st", x, () -> done(x, n, 0, 1));
            E.full("the 41st", x, () -> done(x, n, 2, 0));
            if (n == 18) E.full("the 41st by a fox", x, () -> x.eat(0, NONE));
            E.state("STATE ahead of FULL", x, () -> done(x, n, 4, 0));
            if (n > 16) E.state("STATE ahead of FULL", x, () -> done(x, n, 0, 4));
            E.bad("BAD ahead of FULL", x, () -> done(x, n, 5, 0));
            E.due("one of 40 undone", x.undo(39), 1);
            done(x, n, 0, 1);
            E.due("the 40th again", x.count(3), 40);
            E.due("all undone", x.undo(0), 40);
        }
    }

    private static void undoing() {
        E.by(19);
        MemoryGeese x = E.flock("v01 g210 h20");
        E.unchanged("no deeds, from the first on", x, 0, () -> x.undo(0));
        E.bad("no deeds, from the second on", x, () -> x.undo(1));
        E.bad("no deeds, -1", x, () -> x.undo(-1));
        for (int k = 0; k < 40; k++) x.give(k % 2, k / 2 % 2);
        E.unchanged("none behind the last of 40", x, 0, () -> x.undo(40));
        E.bad("41", x, () -> x.undo(41));
        E.bad("far too many", x, () -> x.undo(Edge.HIGH));
        E.bad("-1", x, () -> x.undo(-1));
        E.bad("the least", x, () -> x.undo(Edge.LOW));
        E.due("the last one", x.undo(39), 1);
        E.due("39 are left", x.count(3), 39);
        E.bad("40 of 39", x, () -> x.undo(40));
        E.due("all but the first", x.undo(1), 38);
        E.due("the first", x.undo(0), 1);
        E.due("none is left", x.count(3), 0);
        E.holds("as at first", x, 0, 0);
        E.holds("as at first", x, 1);
    }

    private static void undone(String what, String text, IntUnaryOperator deed) {
        MemoryGeese x = E.flock(text);
        MemoryGeese y = E.flock(text);
        under = x;
        Check.fill(x, 3, 8);
        Check.fill(y, 3, 8);
        deed.applyAsInt(0);
        int deeds = x.count(3);
        E.due(what + " is a deed or more", deeds > 0 ? 1 : 0, 1);
        E.due(what + " undone", x.undo(0), deeds);
        E.due("as ahead of " + what, x.digest(), y.digest());
    }

    private static MemoryGeese under;

    private static void undoingEachDeed() {
        E.by(19);
        undone("give", "v012 g3001", n -> under.give(0, 2));
        undone("give of one held", "v012 g3001", n -> under.give(0, 0));
        undone("give of one too many", "v012 g2001", n -> under.give(0, 2));
        undone("fright", "v012 g3001", n -> under.fright(0));
        undone("fright of none", "v012 g30", n -> under.fright(0));
        undone("mix", "v012 g3001 h12", n -> under.mix(0, 1));
        undone("mix of one too many", "v012 g3001 h122", n -> under.mix(0, 1));
        undone("mix of none", "v012 g39 h12", n -> under.mix(0, 1));
        undone("a meal", "v012 g3001 h202", n -> under.eat(0, 1));
        undone("a fox", "v012 g3001 h202", n -> under.eat(0, NONE));
        undone("lots", "v012 g3001 h202", n -> under.lots(12, 99));
        MemoryGeese x = E.flock("v012 g3001 h202");
        x.eat(0, NONE);
        x.give(1, 1);
        x.undo(0);
        E.due("one that was gone is given facts again", x.give(0, 2), NONE);
        E.holds("again", x, 0, 0, 1, 2);
        x.row(1, 5);
        x.at(1, 0);
        x.share(0);
        long upper = x.upper();
        x.undo(0);
        E.due("rows are no deeds", x.count(6), 1);
        E.due("upper stays", x.upper(), upper);
    }

    private static void keeping() {
        E.by(20);
        MemoryGeese x = new MemoryGeese();
        for (int k = 0; k < 3; k++) {
            int place = k;
            E.state("no geese", x, () -> x.keep(place));
        }
        E.bad("BAD ahead of STATE", x, () -> x.keep(3));
        E.bad("BAD ahead of STATE", x, () -> x.keep(-1));
        Check.write(x, 0, "v01 g210 h20");
        x.flock(0);
        E.due("without deeds", x.keep(0), 0);
        for (int k = 0; k < 40; k++) x.give(1, k % 2);
        E.due("with 40", x.keep(2), 40);
        E.due("two kept", x.count(8), 2);
        E.due("the same again", x.keep(2), 40);
        E.due("two kept still", x.count(8), 2);
        x.undo(0);
        x.eat(0, NONE);
        x.eat(1, NONE);
        E.due("all gone, but geese", x.keep(1), 2);
        E.due("three kept", x.count(8), 3);
        E.due("over another one", x.keep(2), 2);
        E.due("three kept still", x.count(8), 3);
        x.undo(0);
        E.due("the one over the other", x.on(2), 2);
        E.due("the one over the other", x.count(2), 0);
    }

    private static void goingOn() {
        E.by(21);
        MemoryGeese x = E.flock("v01 g210 h20");
        for (int k = 0; k < 3; k++) {
            int place = k;
            E.finds("none kept", x, NOTHING, () -> x.on(place));
        }
        E.bad("BAD ahead of NOTHING", x, () -> x.on(3));
        E.bad("BAD ahead of NOTHING", x, () -> x.on(-1));
        x.keep(0);
        for (int k = 0; k < 40; k++) x.give(1, k % 2);
        x.keep(1);
        Check.fill(x, 0, 5, 6);
        x.at(0, 1);
        E.due("the one without deeds", x.on(0), 0);
        E.holds("as it was kept", x, 0, 0);
        E.holds("as it was kept", x, 1);
        E.due("a deed again", x.give(1, 1), NONE);
        E.due("the one with 40", x.on(1), 40);
        E.asks("as it was kept", x, x.goose(1, 4), 1, 1);
        E.asks("as it was kept", x, x.goose(1, 5), 1, 0);
        E.full("the 41st", x, () -> x.fright(0));
        E.due("its deeds are undone", x.undo(1), 39);
        E.holds("its first deed stays", x, 1, 0);
        E.due("a kept one isn't undone", x.on(1), 40);
        E.due("a kept one stays when gone on from", x.on(0), 0);
        E.due("both are kept still", x.count(8), 2);
        x.eat(0, NONE);
        E.due("on from another one", x.on(0), 0);
        E.asks("back, as it was", x, x.goose(0, 6), 1, 0);
        E.finds("the third isn't there", x, NOTHING, () -> x.on(2));
        E.rowIs("rows aren't kept", x, 0, 5, 6);
    }

    /** What the document's words do, one lot after another, by public calls. */
    private static void byHand(MemoryGeese x, int n, long seed) {
        long lot = seed;
        for (int k = 0; k < n; k++) {
            lot = lot * 48271L % 2147483647L;
            int i = (int) (lot % x.count(0));
            if (lot / 8 % 4 == 0) x.fright(i);
            else x.give(i, (int) (lot / 64 % x.count(1)));
        }
    }

    private static int lostBy(MemoryGeese x) {
        return x.lost() == NONE ? 0 : x.asked();
    }

    private static void lots() {
        E.by(37);
        MemoryGeese x = E.flock("v0 g10");
        E.due("48271 by 8, cut, modulo 4 is 1: given", x.lots(1, 1), 0);
        E.holds("given", x, 0, 0);
        MemoryGeese y = E.flock("v01234501 g80 g80");
        E.due("48271 is odd: goose 1; by 64, cut, modulo 8 is 2", y.lots(1, 1), 7);
        E.holds("given", y, 1, 2);
        MemoryGeese z = E.flock("v01234501 g8076543210 g10");
        E.due("the number behind 48271, 182605794, is even; by 8, cut, modulo 4 is 0", z.lots(2, 1), 1);
        E.due("182605794 by 8, cut", 182605794 / 8 % 4, 0);
        E.holds("frightened", z, 0, 7, 6, 5, 4, 3, 2, 1);
        E.holds("given", z, 1, 2);
        MemoryGeese w = E.flock("v0 g10");
        w.lots(1, 48271);
        E.due("one that holds none is frightened: a deed", w.count(3), 1);
        w.eat(0, NONE);
        E.unchanged("one that is gone: nothing, no deed", w, 1, () -> w.lots(12, 7));
        MemoryGeese v = new MemoryGeese();
        E.state("no geese", v, () -> v.lots(1, 1));
        E.bad("BAD ahead of STATE", v, () -> v.lots(0, 1));
        E.bad("BAD ahead of STATE", v, () -> v.lots(1, 0));
    }

    private static void lotsOfSeeds() {
        E.by(37);
        String[] texts = {"v01234501 g30012 a202 t30 h31 l5034 s867", "v012 g30012 a202 t30 h31 l502", "v01234 g30012 a202 t30 h31",
            "v0123450 g30012 a202 t30", "v01 g3001 a20", "v0 g10", "v012345 s801 l802"};
        int[] seeds = {1, 2, 3, 48271, 1000000007, 2147483645, 2147483646};
        for (String text : texts) {
            for (int seed : seeds) {
                for (int n = 1; n <= 12; n++) {
                    MemoryGeese x = E.flock(text);
                    MemoryGeese y = E.flock(text);
                    x.eat(x.count(0) - 1, NONE);
                    y.eat(y.count(0) - 1, NONE);
                    byHand(y, n, seed);
                    String what = n + " lots of " + seed + " with '" + text + "'";
                    int lost = x.lots(n, seed);
                    E.due(what, x.digest(), y.digest());
                    E.due(what + ", lost", lost, lostBy(y));
                }
            }
        }
    }

    private static void lotsUpToForty() {
        E.by(37);
        MemoryGeese x = E.flock("v01 g80 h80");
        for (int k = 0; k < 28; k++) x.give(0, 0);
        E.due("12 more are 40", x.lots(12, 5) >= 0 ? x.count(3) : 0, 40);
        E.full("one more", x, () -> x.lots(1, 5));
        E.bad("BAD ahead of FULL", x, () -> x.lots(13, 5));
        E.bad("BAD ahead of FULL", x, () -> x.lots(1, 0));
        x.undo(29);
        E.full("12 more were 41", x, () -> x.lots(12, 5));
        E.due("11 more are 40", x.lots(11, 5) >= 0 ? x.count(3) : 0, 40);
        x.undo(39);
        E.full("two more were 41", x, () -> x.lots(2, 5));
        E.due("one more is 40", x.lots(1, 5) >= 0 ? x.count(3) : 0, 40);
        x.undo(37);
        x.eat(0, NONE);
        x.eat(1, NONE);
        E.unchanged("all gone, one more were 40", x, 2, () -> x.lots(1, 5));
        E.full("all gone, two more were 41", x, () -> x.lots(2, 5));
    }
}
