import java.util.ArrayList;
import java.util.List;

/** Edges of the promises 22 to 36: who tells what, walks, what is safe, what was held, spring. */
public final class QuestionEdgeTests {
    private static final int NONE = Edge.NONE;
    private static final int NOTHING = Edge.NOTHING, UNLIKE = Edge.UNLIKE, SIZE = Edge.SIZE;
    private static final Edge E = new Edge("QuestionEdgeTests");

    public static void main(String[] args) {
        ranges();
        tellsOfGanders();
        tellsOfTwins();
        tellsOfHens();
        tellsOfStrays();
        told();
        holders();
        lost();
        mute();
        walks();
        walksOfTwins();
        noWalks();
        crews();
        leasts();
        risks();
        safety();
        shares();
        helds();
        heldsByKind();
        refusedReports();
        kinds();
        odds();
        mids();
        E.end(22, 23, 24, 25, 26, 27, 28, 29, 30, 31, 32, 33, 34, 35, 36);
    }

    private static void ranges() {
        E.range(22, (x, a) -> x.tells(a[0], a[1]), 0, 0, 2, 0, 0);
        E.range(22, (x, a) -> x.tells(a[0], a[1]), 1, 0, 5, 0, 0);
        E.range(23, (x, a) -> x.told(a[0]), 0, 0, 7, 0);
        E.range(24, (x, a) -> x.holders(a[0]), 0, 0, 3, 0);
        E.range(27, (x, a) -> x.walk(a[0], a[1], a[2]), 0, 0, 2, 0, 0, 0);
        E.range(27, (x, a) -> x.walk(a[0], a[1], a[2]), 1, 0, 15, 0, 0, 0);
        E.range(27, (x, a) -> x.walk(a[0], a[1], a[2]), 2, 0, 5, 0, 0, 0);
        E.range(28, (x, a) -> x.crew(a[0]), 0, 0, 15, 0);
        E.range(29, (x, a) -> x.least(a[0]), 0, 0, 15, 0);
        E.range(32, (x, a) -> x.share(a[0]), 0, 0, 2, 0);
        E.range(33, (x, a) -> x.held(a[0], a[1]), 0, 0, 2, 0, 0);
        E.range(33, (x, a) -> x.held(a[0], a[1]), 1, 0, 5, 0, 0);
        E.range(34, (x, a) -> x.kinds(a[0], a[1]), 0, 0, 2, 0, 0);
        E.range(34, (x, a) -> x.kinds(a[0], a[1]), 1, 0, 5, 0, 0);
        E.range(35, (x, a) -> x.odds(a[0], a[1]), 0, 0, 15, 0, 6);
        E.range(35, (x, a) -> x.odds(a[0], a[1]), 1, 0, 12, 3, 6);
        E.range(36, (x, a) -> x.mid(a[0]), 0, 0, 12, 6);
    }

    private static void tells(String what, MemoryGeese x, int i, int... atPlaces) {
        for (int p = 0; p < 6; p++) E.due(what + " at " + p, x.tells(i, p), atPlaces[p]);
    }

    private static void tellsOfGanders() {
        E.by(22);
        MemoryGeese x = E.flock("v00554321 g8001234567 a8001234567 g10 a10");
        tells("all of each place", x, 0, 3, 128, 64, 32, 16, 12);
        tells("the newest of each place", x, 1, 2, 128, 64, 32, 16, 8);
        tells("none held", x, 2, 0, 0, 0, 0, 0, 0);
        tells("none held", x, 3, 0, 0, 0, 0, 0, 0);
        x.give(1, 0);
        x.give(1, 2);
        tells("given again: the newest", x, 1, 1, 128, 64, 32, 16, 4);
        x.fright(1);
        tells("frightened: the newest of those left", x, 1, 1, 128, 64, 32, 16, 8);
        x.give(2, 7);
        tells("a goose tells, though it is full", x, 2, 0, 128, 0, 0, 0, 0);
        x.give(3, 7);
        tells("a gander tells, though it is full", x, 3, 0, 128, 0, 0, 0, 0);
        x.eat(0, NONE);
        tells("gone", x, 0, 0, 0, 0, 0, 0, 0);
    }

    private static void tellsOfTwins() {
        E.by(22);
        MemoryGeese x = E.flock("v012345 t80012345 t100 t105 g100 g105");
        tells("those of the next place, behind 5: 0", x, 0, 3, 6, 12, 24, 48, 33);
        tells("one of place 0 is told at 0 and 5", x, 1, 1, 0, 0, 0, 0, 1);
        tells("one of place 5 is told at 4 and 5", x, 2, 0, 0, 0, 0, 32, 32);
        tells("no goose does so", x, 3, 1, 0, 0, 0, 0, 0);
        tells("no goose does so", x, 4, 0, 0, 0, 0, 0, 32);
        MemoryGeese y = E.flock("v000555 t80012345");
        tells("not the newest alone", y, 0, 7, 0, 0, 0, 56, 63);
    }

    private static void tellsOfHens() {
        E.by(22);
        MemoryGeese x = E.flock("v00112233 h20 h100 l20 l801234567 l101");
        tells("none held", x, 0, 0, 0, 0, 0, 0, 0);
        x.give(0, 0);
        tells("one of two", x, 0, 1, 0, 0, 0, 0, 0);
        x.give(0, 2);
        tells("as many as it can", x, 0, 0, 0, 0, 0, 0, 0);
        x.fright(0);
        tells("one of two again", x, 0, 1, 0, 0, 0, 0, 0);
        tells("one of one", x, 1, 0, 0, 0, 0, 0, 0);
        x.give(2, 0);
        tells("a gosling: no even one", x, 2, 0, 0, 0, 0, 0, 0);
        x.give(2, 1);
        tells("a full gosling", x, 2, 0, 0, 0, 0, 0, 0);
        x.fright(2);
        x.fright(2);
        x.give(2, 1);
        tells("a gosling: an odd one", x, 2, 2, 0, 0, 0, 0, 0);
        tells("a gosling: all odd ones", x, 3, 2, 8, 32, 128, 0, 0);
        x.give(3, 0);
        tells("a gosling that holds all", x, 3, 0, 0, 0, 0, 0, 0);
        tells("a full gosling of one", x, 4, 0, 0, 0, 0, 0, 0);
        MemoryGeese y = E.flock("v000000 h80012345 l80012345");
        tells("a hen: all of a place", y, 0, 63, 0, 0, 0, 0, 0);
        tells("a gosling: all odd ones of a place", y, 1, 42, 0, 0, 0, 0, 0);
    }

    private static void tellsOfStrays() {
        E.by(22);
        MemoryGeese x = E.flock("v00112345 s8001234567 a8001234567 s100 s103");
        tells("a stray: none at place 0, the newest elsewhere", x, 0, 0, 8, 16, 32, 64, 128);
        tells("a gander", x, 1, 2, 8, 16, 32, 64, 128);
        tells("a stray that holds one of place 0", x, 2, 0, 0, 0, 0, 0, 0);
        tells("a stray that holds one of place 1", x, 3, 0, 8, 0, 0, 0, 0);
        x.give(0, 2);
        tells("a stray: the newest", x, 0, 0, 4, 16, 32, 64, 128);
    }

    private static void told() {
        E.by(23);
        MemoryGeese x = E.flock("v01234501 g100 g101 g102 g103 g104 g805670");
        for (int set = 0; set < 64; set++) {
            int want = set & 31 | (set >= 32 ? 225 : 0);
            E.due("told by " + set, x.told(set), want);
        }
        E.bad("a seventh goose", x, () -> x.told(64));
        E.bad("no set", x, () -> x.told(-1));
        E.bad("no set", x, () -> x.told(-64));
        x.eat(5, NONE);
        E.due("by one gone", x.told(32), 0);
        E.due("by one gone and others", x.told(63), 31);
        MemoryGeese y = E.flock("v00 a8001 s8001 h2001");
        E.due("a gander: only the newest somewhere", y.told(1), 2);
        E.due("a stray at place 0", y.told(2), 0);
        E.due("a full hen", y.told(4), 0);
        E.unchanged("asked stays", y, 2, () -> y.told(7));
    }

    private static void holders() {
        E.by(24);
        MemoryGeese x = E.flock("v00 g8010 a8001 t101 h101 l801 s80");
        E.asks("some hold, tell", x, x.holders(1), 31, 1 | 2 | 4 | 16);
        E.asks("the older one of a gander", x, x.holders(0), 3, 1);
        for (int i = 0; i < 6; i++) x.eat(i, NONE);
        E.asks("nobody", x, x.holders(0), 0, 0);
        E.asks("nobody", x, x.holders(1), 0, 0);
        E.bad("no fact", x, () -> x.holders(2));
        MemoryGeese y = E.flock("v0" + "s100".repeat(6));
        E.asks("all hold, none tells", y, y.holders(0), 63, 0);
        MemoryGeese z = E.flock("v0" + "g100".repeat(6));
        E.asks("all hold, all tell", z, z.holders(0), 63, 63);
    }

    private static void lost() {
        E.by(25);
        MemoryGeese x = E.flock("v01234501 g8001234567 h80");
        x.row(0, 1);
        x.lay(0, 0, 5);
        x.at(0, 0);
        E.asks("none (asked 0)", x, x.lost(), NONE, 0);
        x.fright(0);
        E.asks("the last one alone", x, x.lost(), 7, 1);
        x.eat(0, 1);
        E.asks("moved, not lost", x, x.lost(), 7, 1);
        x.eat(1, NONE);
        E.asks("all", x, x.lost(), 0, 8);
        MemoryGeese z = new MemoryGeese();
        E.asks("no facts at all", z, z.lost(), NONE, 0);
        MemoryGeese y = E.flock("v01 s100 h11");
        E.asks("held is enough, though untold", y, y.lost(), 1, 1);
    }

    private static void mute() {
        E.by(26);
        MemoryGeese x = E.flock("v00112233 a80013245 g80 h2067");
        x.row(0, 1);
        E.asks("the older ones of a gander, those of a full hen", x, x.mute(), 0, 5);
        x.give(1, 0);
        x.give(1, 3);
        x.give(1, 4);
        E.asks("those of the hen", x, x.mute(), 6, 2);
        x.give(1, 7);
        E.asks("one is told by another", x, x.mute(), 6, 1);
        x.fright(2);
        E.asks("none (asked 0)", x, x.mute(), NONE, 0);
        for (int i = 0; i < 3; i++) x.eat(i, NONE);
        E.asks("what nobody holds isn't mute", x, x.mute(), NONE, 0);
        MemoryGeese y = E.flock("v0123 g803 s80012");
        E.asks("the first alone", y, y.mute(), 0, 1);
        MemoryGeese z = E.flock("v00000000 h8001234567");
        E.asks("all", z, z.mute(), 0, 8);
        MemoryGeese w = new MemoryGeese();
        E.asks("no facts at all", w, w.mute(), NONE, 0);
    }

    private static void walkIs(MemoryGeese x, int i, int facts, int... places) {
        Check.fill(x, 3, 9, 9, 9, 9, 9, 9, 9);
        int asked = x.asked();
        E.due("walk of " + i + " for " + facts, x.walk(i, facts, 3), places.length);
        E.due("asked stays", x.asked(), asked);
        E.rowIs("walk of " + i + " for " + facts, x, 3, places);
    }

    private static void walks() {
        E.by(27);
        MemoryGeese x = E.flock("v54321005 g8001234567 a8001234567 s8001234567 h801234567 l801234567 h10");
        walkIs(x, 0, 0);
        walkIs(x, 0, 255, 0, 1, 2, 3, 4, 5);
        walkIs(x, 0, 1 | 128, 5);
        walkIs(x, 0, 1 | 32, 0, 5);
        walkIs(x, 1, 128 | 64 | 2, 0, 4, 5);
        walkIs(x, 2, 128 | 16, 1, 5);
        walkIs(x, 3, 254, 0, 1, 2, 3, 4, 5);
        walkIs(x, 4, 2 | 8 | 32 | 128, 0, 2, 4, 5);
        walkIs(x, 5, 0);
        x.eat(0, NONE);
        walkIs(x, 0, 0);
        for (int r = 0; r < 6; r++) {
            MemoryGeese y = E.flock("v1 g100");
            E.due("to a row that was missing", y.walk(0, 1, r), 1);
            E.due("one row is there", y.count(6), 1);
            E.rowIs("to a row that was missing", y, r, 1);
            E.due("an empty walk", y.walk(0, 0, r), 0);
            E.rowIs("an empty row is there", y, r);
        }
    }

    /** "the shortest", "the first by its PLACES". */
    private static void walksOfTwins() {
        E.by(27);
        MemoryGeese x = E.flock("v012345 t80012345");
        walkIs(x, 0, 63, 0, 2, 4);
        walkIs(x, 0, 1, 0);
        walkIs(x, 0, 2, 0);
        walkIs(x, 0, 4, 1);
        walkIs(x, 0, 32, 4);
        walkIs(x, 0, 33, 5);
        walkIs(x, 0, 3, 0);
        walkIs(x, 0, 5, 0, 1);
        walkIs(x, 0, 35, 0, 4);
        walkIs(x, 0, 49, 0, 4);
        walkIs(x, 0, 62, 0, 2, 4);
        walkIs(x, 0, 31, 0, 1, 3);
        walkIs(x, 0, 47, 0, 2, 4);
        walkIs(x, 0, 28, 1, 3);
        walkIs(x, 0, 24, 3);
    }

    private static void noWalks() {
        E.by(27);
        MemoryGeese x = E.flock("v00123 g8001 a8001 s8001 h2001 l8001");
        Check.fill(x, 2, 5, 6, 7);
        int[][] untold = {{0, 4}, {0, 7}, {0, 31}, {1, 1}, {1, 3}, {2, 2}, {3, 1}, {3, 2}, {4, 1}, {4, 3}};
        for (int[] w : untold) {
            E.none("walk of " + w[0] + " for " + w[1], x, () -> x.walk(w[0], w[1], 2));
            E.none("walk of " + w[0] + " to a row that is missing", x, () -> x.walk(w[0], w[1], 4));
        }
        E.rowIs("the row stays", x, 2, 5, 6, 7);
        x.eat(0, NONE);
        E.none("one gone", x, () -> x.walk(0, 1, 2));
        E.bad("a sixth fact of five", x, () -> x.walk(0, 32, 2));
        E.bad("BAD ahead of NONE", x, () -> x.walk(0, 1, 6));
        E.bad("BAD ahead of NONE", x, () -> x.walk(5, 1, 2));
    }

    private static void crews() {
        E.by(28);
        MemoryGeese x = E.flock("v012345 g100 g101 g102 g103 g104 g105");
        E.asks("none needed", x, x.crew(0), 0, 0);
        E.asks("all needed", x, x.crew(63), 6, 63);
        E.asks("the last alone", x, x.crew(32), 1, 32);
        x.eat(5, NONE);
        E.none("one gone", x, () -> x.crew(32));
        E.none("one gone", x, () -> x.crew(63));
        E.asks("the others", x, x.crew(31), 5, 31);
        MemoryGeese y = E.flock("v0123 g8023 g8001 g801 g80023 g800");
        E.asks("fewer ahead of lesser numbers", y, y.crew(13), 1, 8);
        E.asks("the least number of as few", y, y.crew(15), 2, 3);
        E.asks("the least number of one", y, y.crew(1), 1, 2);
        E.asks("the least number of one", y, y.crew(12), 1, 1);
        E.asks("the least number of two", y, y.crew(7), 2, 3);
        MemoryGeese z = E.flock("v00 a8001 h2001 s8001");
        E.none("held, but not told", z, () -> z.crew(1));
        E.asks("told by a gander", z, z.crew(2), 1, 1);
        MemoryGeese w = E.flock("v0123 g803 g8012 g8023 g8001 g8013");
        E.asks("the only two", w, w.crew(15), 2, 12);
    }

    private static void leasts() {
        E.by(29);
        MemoryGeese x = E.flock("v00001111 a2004 a2015 a2026 a2037");
        E.due("none to hear", x.least(0), 0);
        E.due("more than one walk can have", x.least(255), 8);
        E.due("one", x.least(128), 1);
        x.eat(3, NONE);
        E.none("one gone", x, () -> x.least(255));
        E.due("the others", x.least(119), 6);
        MemoryGeese y = E.flock("v001101 t800123 g80014 g80235");
        E.due("not greedily", y.least(63), 2);
        E.due("one place of a twin", y.least(15), 1);
        MemoryGeese z = E.flock("v012345 t80012345 g80024");
        E.due("a twin", z.least(63), 3);
        E.due("around the end", z.least(33), 1);
        E.due("two of a goose or a twin", z.least(5), 2);
        MemoryGeese v = E.flock("v0123455" + "g80012345".repeat(5) + "g800123456");
        E.due("all geese tell at all places", v.least(127), 6);
        E.due("the last goose at the last place", v.least(64), 1);
        for (int i = 5; i >= 0; i--) {
            v.eat(i, NONE);
            if (i == 5) E.none("one gone is heard no more", v, () -> v.least(64));
            else if (i > 0) E.due("as long as one is left", v.least(63), 6);
            else for (int f = 0; f < 7; f++) {
                int set = 1 << f;
                E.none("none is left", v, () -> v.least(set));
            }
        }
        MemoryGeese w = E.flock("v00 a8001 h2001 s8001");
        E.none("held, but not told", w, () -> w.least(1));
        E.none("one told, one not", w, () -> w.least(3));
        E.due("told", w.least(2), 1);
        E.unchanged("asked stays", w, 1, () -> w.least(2));
    }

    private static void risks() {
        E.by(30);
        MemoryGeese x = E.flock("v01234501 g8001234567 g8001234567");
        E.asks("none would be lost", x, x.risk(), 0, NONE);
        x.fright(1);
        E.asks("one by the first", x, x.risk(), 128, 0);
        x.eat(1, NONE);
        E.asks("all", x, x.risk(), 255, 0);
        x.eat(0, NONE);
        E.asks("nobody holds any", x, x.risk(), 0, NONE);
        MemoryGeese y = E.flock("v01234501 g10 g8001 g8023 g80456 h80457");
        E.asks("most, the first of as many", y, y.risk(), 1 | 2 | 4 | 8 | 64 | 128, 1);
        y.give(0, 0);
        E.asks("most", y, y.risk(), 2 | 4 | 8 | 64 | 128, 2);
        MemoryGeese z = E.flock("v0 s100");
        E.asks("held is enough, though untold", z, z.risk(), 1, 0);
        MemoryGeese w = E.flock("v012345 g100 g101 g102 g103 g104 g105");
        E.asks("six geese, the first", w, w.risk(), 63, 0);
        for (int i = 0; i < 5; i++) w.eat(i, NONE);
        E.asks("the last goose", w, w.risk(), 32, 5);
    }

    private static void safeBy(String text, int want) {
        MemoryGeese x = E.flock(text);
        E.unchanged("safe by '" + text + "'", x, want, () -> x.safe());
    }

    private static void safety() {
        E.by(31);
        safeBy("v01234501 g80 g80", 16);
        safeBy("v01234501 g8001234567 g8001234567", 0);
        safeBy("v01234501 g8001234567 g80", 8);
        safeBy("v01234501 g80 g70", NONE);
        safeBy("v0 g10", NONE);
        safeBy("v0 g100", NONE);
        safeBy("v0 g80", NONE);
        safeBy("v0 g800", NONE);
        safeBy("v0 g10 g10", 2);
        safeBy("v0 g100 g10", 1);
        safeBy("v01 g100 g101", NONE);
        safeBy("v01 g100 g101 g10", NONE);
        safeBy("v01 g100 g101 g20", 2);
        safeBy("v01 g100 g101 g10 g10", 2);
        safeBy("v012 g2001 g2012 g2020", 0);
        safeBy("v012 g30 g30 g10", 6);
        safeBy("v012 g20 g20 g20", 6);
        safeBy("v012 g40 g10 g10", NONE);
        safeBy("v01 g8001 g10 h10", 2);
        safeBy("v01 g8001 g10", NONE);
        safeBy("v012 g8012 g201 g10", 3);
        safeBy("v012345 g8012345 g100 g10 g10 g10 g20", 6);
        safeBy("v012345 g8012345 g100 g10 g10 g10 g10", NONE);
        MemoryGeese x = E.flock("v01 g2001 g2001 g20");
        x.eat(0, NONE);
        E.due("one gone holds nothing", x.safe(), 2);
        x.eat(2, NONE);
        E.none("one alone is left", x, () -> x.safe());
        x.eat(1, NONE);
        E.none("all gone, but geese", x, () -> x.safe());
        MemoryGeese y = new MemoryGeese();
        E.state("no geese", y, () -> y.safe());
    }

    private static void shares() {
        E.by(32);
        for (int n = 1; n <= 6; n++) {
            MemoryGeese x = E.flock("v000" + "g80012".repeat(n));
            long lower = n % 3 == 0 ? n / 3 : n;
            E.ratio("three facts among " + n, x, x.share(n - 1), 3 * lower / n, lower);
        }
        MemoryGeese y = E.flock("v01234501 g8001234567 h8001234567");
        E.ratio("all alone", y, y.share(0), 8, 1);
        E.ratio("0 by 1", y, y.share(1), 0, 1);
        y.eat(0, NONE);
        E.ratio("one gone", y, y.share(0), 0, 1);
        E.bad("no goose", y, () -> y.share(2));
        MemoryGeese z = E.flock("v00000 g8001234 g801234 g80234 g8034 g804");
        E.ratio("1 + 1/2 + 1/3 + 1/4 + 1/5", z, z.share(0), 137, 60);
        E.ratio("1/5", z, z.share(4), 1, 5);
    }

    /** All rows of facts, written out by the document's words for a goose that tells all facts of a place that it holds. */
    private static int rowsThatFit(int facts, int most, int[] places, int[] pairs) {
        List<List<Integer>> rows = new ArrayList<>();
        rows.add(List.of());
        int fit = 0;
        for (int k = 0; k < rows.size(); k++) {
            List<Integer> row = rows.get(k);
            boolean good = true;
            for (int p = 0; p + 1 < pairs.length; p += 2) {
                int set = 0;
                for (int f : row) set |= places[f] == pairs[p] ? 1 << f : 0;
                good &= set == pairs[p + 1];
            }
            fit += good ? 1 : 0;
            for (int f = 0; f < facts && row.size() < most; f++) {
                if (row.contains(f)) continue;
                List<Integer> longer = new ArrayList<>(row);
                longer.add(f);
                rows.add(longer);
            }
        }
        return fit;
    }

    private static void helds() {
        E.by(33);
        int[] all = {9, 65, 401, 2081};
        for (int most = 1; most <= 4; most++) {
            MemoryGeese x = E.flock("v01234501 g" + most + "0");
            x.row(0, 0);
            E.ratio("nothing was told, " + most + " at most", x, x.held(0, 0), all[most - 1], 1);
            x.row(0, 40);
            E.ratio("20 times nothing at place 0", x, x.held(0, 0), rowsThatFit(8, most, new int[] {0, 1, 2, 3, 4, 5, 0, 1}, new int[40]), 1);
        }
        MemoryGeese y = E.flock("v0 g40 g10 g50");
        y.row(0, 0);
        E.ratio("more room than facts", y, y.held(0, 0), 2, 1);
        E.ratio("as much room as facts", y, y.held(1, 0), 2, 1);
        E.state("it can hold 5", y, () -> y.held(2, 0));
        Check.fill(y, 1, 0, 1);
        E.ratio("what it told", y, y.held(0, 1), 1, 1);
        Check.fill(y, 1, 0, 1, 0, 0);
        E.ratio("told unlike at one place: 0 by 1", y, y.held(0, 1), 0, 1);
        Check.fill(y, 1, 1, 1);
        E.ratio("told where it can't be: 0 by 1", y, y.held(0, 1), 0, 1);
        y.eat(0, NONE);
        Check.fill(y, 1, 0, 1);
        E.ratio("gone or not", y, y.held(0, 1), 1, 1);
        MemoryGeese z = E.flock("v00112 g40 g3043");
        int[][] pairs = {{0, 1}, {0, 3}, {0, 2, 1, 4}, {1, 12, 0, 0}, {2, 16, 2, 16}, {3, 0}, {5, 1}, {0, 3, 1, 12}, {0, 3, 1, 12, 2, 16}};
        for (int[] p : pairs) {
            Check.fill(z, 0, p);
            E.ratio("by pairs", z, z.held(0, 0), rowsThatFit(5, 4, new int[] {0, 0, 1, 1, 2}, p), 1);
            E.ratio("whatever it holds now", z, z.held(1, 0), rowsThatFit(5, 3, new int[] {0, 0, 1, 1, 2}, p), 1);
        }
    }

    private static void heldsByKind() {
        E.by(33);
        MemoryGeese x = E.flock("v00 g20 a20 t20 h20 l20 s20");
        int[][] told = {{0, 0}, {0, 1}, {0, 2}, {0, 3}, {5, 0}, {5, 1}, {5, 3}, {4, 0}, {0, 1, 5, 1}, {0, 1, 5, 0}};
        int[][] want = {
            {1, 1, 1, 3, 4, 5}, {1, 2, 1, 1, 0, 0}, {1, 2, 1, 1, 1, 0}, {2, 0, 2, 0, 0, 0}, {5, 5, 1, 5, 5, 5},
            {0, 0, 1, 0, 0, 0}, {0, 0, 2, 0, 0, 0}, {5, 5, 5, 5, 5, 5}, {0, 0, 1, 0, 0, 0}, {1, 2, 0, 1, 0, 0}};
        for (int k = 0; k < told.length; k++) {
            Check.fill(x, 0, told[k]);
            for (int i = 0; i < 6; i++) E.ratio("told " + k + " by kind " + i, x, x.held(i, 0), want[k][i], 1);
        }
    }

    private static void refusedReports() {
        MemoryGeese x = E.flock("v01 g410 g50");
        for (int number = 33; number <= 34; number++) {
            boolean held = number == 33;
            E.by(number);
            x.tear(0);
            E.finds("no row", x, NOTHING, () -> held ? x.held(0, 0) : x.kinds(0, 0));
            int[][] unlike = {{-1, 0}, {6, 0}, {Edge.LOW, 0}, {Edge.HIGH, 0}, {0, -1}, {0, 4}, {0, Edge.LOW}, {0, Edge.HIGH},
                {0, 0, 5, 4}, {0, 0, 6, 0}, {0, 1, 0, 2, 0, 4}};
            for (int[] u : unlike) {
                Check.fill(x, 0, u);
                E.finds("no place, no set", x, UNLIKE, () -> held ? x.held(0, 0) : x.kinds(0, 0));
            }
            Check.fill(x, 0, 0, 3, 5, 0);
            E.due("the last place, the greatest set", held ? x.held(0, 0) : x.kinds(0, 0) >= 0 ? 1 : 0, 1);
            for (int size = 1; size <= 39; size += 2) {
                x.row(0, size);
                x.lay(0, 0, 99);
                E.finds("not by pairs, ahead of UNLIKE", x, SIZE, () -> held ? x.held(0, 0) : x.kinds(0, 0));
            }
            E.bad("BAD ahead of SIZE", x, () -> held ? x.held(2, 0) : x.kinds(2, 0));
            E.bad("BAD ahead of NOTHING", x, () -> held ? x.held(0, 6) : x.kinds(0, 6));
        }
        E.by(33);
        E.state("STATE ahead of NOTHING", x, () -> x.held(1, 1));
        E.state("STATE ahead of SIZE", x, () -> x.held(1, 0));
        Check.fill(x, 0, 9, 0);
        E.state("STATE ahead of UNLIKE", x, () -> x.held(1, 0));
        E.bad("BAD ahead of STATE", x, () -> x.held(1, 6));
        E.by(34);
        x.row(0, 0);
        E.due("one that can hold 5", x.kinds(1, 0), 63);
    }

    private static void kindsAre(MemoryGeese x, int i, int want, int... pairs) {
        Check.fill(x, 0, pairs);
        E.unchanged("kinds of " + i, x, want, () -> x.kinds(i, 0));
    }

    private static void kinds() {
        E.by(34);
        MemoryGeese x = E.flock("v0015 g8001 a8010 t100 h2001 l80 s80123");
        kindsAre(x, 0, 63);
        kindsAre(x, 0, 1 | 4 | 8, 0, 3);
        kindsAre(x, 0, 2 | 16, 0, 2);
        kindsAre(x, 1, 2, 0, 1);
        kindsAre(x, 0, 32, 0, 0);
        kindsAre(x, 0, 0, 0, 1);
        kindsAre(x, 0, 4, 5, 3);
        kindsAre(x, 0, 1 | 8, 0, 3, 5, 0);
        kindsAre(x, 0, 0, 0, 3, 0, 2);
        kindsAre(x, 2, 1 | 2 | 4, 0, 1);
        kindsAre(x, 2, 8 | 16 | 32, 0, 0);
        kindsAre(x, 3, 1 | 4, 0, 3);
        kindsAre(x, 3, 8 | 16 | 32, 0, 0);
        kindsAre(x, 4, 63, 0, 0, 1, 0, 2, 0, 3, 0, 4, 0, 5, 0);
        kindsAre(x, 4, 0, 3, 1);
        kindsAre(x, 5, 1 | 2 | 8 | 16, 0, 2, 5, 8);
        kindsAre(x, 5, 4, 0, 6);
        kindsAre(x, 5, 4, 5, 10);
        kindsAre(x, 5, 32, 0, 0, 1, 4);
        kindsAre(x, 5, 16, 1, 0);
        x.give(1, 1);
        kindsAre(x, 1, 2 | 16, 0, 2);
        x.eat(0, NONE);
        kindsAre(x, 0, 63, 0, 0);
        kindsAre(x, 0, 0, 0, 3);
    }

    private static void odds() {
        E.by(35);
        MemoryGeese x = E.flock("v01234501 g100 g101 g102 g103 g104 g80567");
        E.ratio("no facts, never", x, x.odds(0, 0), 1, 1);
        E.ratio("no facts, surely", x, x.odds(0, 12), 1, 1);
        E.ratio("all facts, never", x, x.odds(255, 0), 0, 1);
        E.ratio("all facts, surely", x, x.odds(255, 12), 1, 1);
        E.ratio("all facts by 1 of 12", x, x.odds(255, 1), 1, 2985984);
        E.ratio("all facts by 11 of 12", x, x.odds(255, 11), 1771561, 2985984);
        E.ratio("all facts by 6 of 12", x, x.odds(255, 6), 1, 64);
        E.ratio("in lowest terms", x, x.odds(1, 8), 2, 3);
        E.ratio("one who holds three", x, x.odds(224, 3), 1, 4);
        x.eat(0, NONE);
        E.ratio("one gone", x, x.odds(255, 12), 0, 1);
        E.ratio("one gone", x, x.odds(254, 1), 1, 248832);
        MemoryGeese y = E.flock("v0" + "g100".repeat(6));
        E.ratio("one of six", y, y.odds(1, 1), 2985984 - 1771561, 2985984);
        E.ratio("one of six", y, y.odds(1, 6), 63, 64);
        MemoryGeese z = E.flock("v0 s100");
        E.ratio("held is enough, though untold", z, z.odds(1, 12), 1, 1);
        z.eat(0, NONE);
        E.ratio("all gone, no facts", z, z.odds(0, 0), 1, 1);
        E.ratio("all gone", z, z.odds(1, 12), 0, 1);
        MemoryGeese w = new MemoryGeese();
        E.ratio("no geese, no facts", w, w.odds(0, 7), 1, 1);
        E.bad("more than surely", w, () -> w.odds(0, 13));
        E.bad("less than never", w, () -> w.odds(0, -1));
    }

    private static void mids() {
        E.by(36);
        MemoryGeese x = E.flock("v01234501 g100 g101 g102 g103 g104 g80567");
        E.ratio("never", x, x.mid(0), 0, 1);
        E.ratio("surely", x, x.mid(12), 8, 1);
        E.ratio("by 6 of 12", x, x.mid(6), 4, 1);
        E.ratio("by 1 of 12", x, x.mid(1), 2, 3);
        E.ratio("by 5 of 12", x, x.mid(5), 10, 3);
        x.eat(5, NONE);
        E.ratio("one gone", x, x.mid(12), 5, 1);
        MemoryGeese y = E.flock("v0" + "g100".repeat(6));
        E.ratio("one of six", y, y.mid(1), 2985984 - 1771561, 2985984);
        for (int i = 0; i < 6; i++) y.eat(i, NONE);
        E.ratio("all gone", y, y.mid(12), 0, 1);
        MemoryGeese z = new MemoryGeese();
        E.ratio("no geese", z, z.mid(7), 0, 1);
        E.bad("more than surely", z, () -> z.mid(13));
        E.bad("less than never", z, () -> z.mid(-1));
    }
}
