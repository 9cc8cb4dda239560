import java.util.function.ToIntFunction;

/** Edges of the promises 38 to 44: what is told behind other calls, counts, findings, digests. */
public final class TellEdgeTests {
    private static final int NONE = Edge.NONE, NOTHING = Edge.NOTHING, BEYOND = Edge.BEYOND, UNLIKE = Edge.UNLIKE;
    private static final int NOUGHT = Edge.NOUGHT, SIZE = Edge.SIZE, MARKED = 424242;
    private static final Edge E = new Edge("TellEdgeTests");

    public static void main(String[] args) {
        ranges();
        atFirst();
        asked();
        askedByNone();
        whatAsksNothing();
        ratios();
        whatTellsNoRatio();
        counts();
        countsOfGoneOnes();
        findings();
        digestAtFirst();
        digest();
        digestOfTheGreatest();
        manyCalls();
        E.end(38, 39, 40, 41, 42, 43, 44);
    }

    private static void ranges() {
        E.range(41, (x, a) -> x.count(a[0]), 0, 0, 8, 0);
        E.range(43, (x, a) -> x.findings(a[0]), 0, 1, 5, 1);
    }

    private static void atFirst() {
        MemoryGeese x = new MemoryGeese();
        E.by(38);
        E.due("asked before", x.asked(), 0);
        E.by(39);
        E.due("upper before", x.upper(), 0);
        E.by(40);
        E.due("lower before", x.lower(), 1);
        E.by(42);
        E.due("no finding before", x.finding(), 0);
        E.by(43);
        for (int f = 1; f <= 5; f++) E.due("findings before", x.findings(f), 0);
    }

    /** A village where asked() is MARKED, upper() 5, lower() 12. */
    private static MemoryGeese marked() {
        MemoryGeese x = Edge.village();
        x.odds(1, 5);
        x.row(5, 1);
        x.lay(5, 0, MARKED);
        x.at(5, 0);
        return x;
    }

    private static void tellsAsked(String what, int want, ToIntFunction<MemoryGeese> call) {
        MemoryGeese x = marked();
        call.applyAsInt(x);
        E.due(what, x.asked(), want);
        E.due(what + " again", x.asked(), want);
    }

    private static void asked() {
        E.by(38);
        tellsAsked("lay()", 2, x -> x.lay(0, 2, 9));
        tellsAsked("at()", 1, x -> x.at(0, 1));
        tellsAsked("mean()", MARKED, x -> x.mean(5));
        tellsAsked("mean()", 0, x -> x.mean(0));
        tellsAsked("goose()", 7, x -> x.goose(0, 3));
        tellsAsked("goose(), NONE", NONE, x -> {
            x.eat(0, NONE);
            return x.goose(0, 4);
        });
        tellsAsked("holders()", 1, x -> x.holders(0));
        tellsAsked("lost()", 0, x -> x.lost());
        tellsAsked("lost()", 1, x -> {
            x.fright(1);
            return x.lost();
        });
        tellsAsked("mute()", 0, x -> x.mute());
        tellsAsked("crew()", 1, x -> x.crew(1));
        tellsAsked("crew() of none", 0, x -> x.crew(0));
        tellsAsked("risk()", 0, x -> x.risk());
    }

    /** "that was not refused (nor NONE, but as told)". */
    private static void askedByNone() {
        E.by(38);
        tellsAsked("lost() NONE: 0", 0, x -> x.lost());
        tellsAsked("mute() NONE: 0", 0, x -> x.mute());
        tellsAsked("crew() NONE", MARKED, x -> {
            x.eat(1, NONE);
            return x.crew(8);
        });
        tellsAsked("risk() of none: NONE", NONE, x -> {
            for (int i = 0; i < 3; i++) x.eat(i, NONE);
            return x.risk();
        });
        tellsAsked("lay() refused", MARKED, x -> x.lay(0, 4, 9));
        tellsAsked("lay() refused", MARKED, x -> x.lay(6, 0, 9));
        tellsAsked("at() refused", MARKED, x -> x.at(0, -1));
        tellsAsked("at() refused", MARKED, x -> {
            x.tear(0);
            return x.at(0, 0);
        });
        tellsAsked("mean() refused", MARKED, x -> {
            x.row(0, 0);
            return x.mean(0);
        });
        tellsAsked("goose() refused", MARKED, x -> x.goose(0, 7));
        tellsAsked("holders() refused", MARKED, x -> x.holders(4));
        tellsAsked("crew() refused", MARKED, x -> x.crew(16));
    }

    private static void whatAsksNothing() {
        E.by(38);
        tellsAsked("row()", MARKED, x -> x.row(0, 3));
        tellsAsked("tear()", MARKED, x -> x.tear(0));
        tellsAsked("copy()", MARKED, x -> x.copy(0, 0, 1, 0, 2));
        tellsAsked("text()", MARKED, x -> x.text(1, 3));
        tellsAsked("put()", MARKED, x -> x.put(1, 1, 1));
        tellsAsked("fault()", MARKED, x -> x.fault(1));
        tellsAsked("flock()", MARKED, x -> x.flock(1));
        tellsAsked("mark()", MARKED, x -> x.mark(1, 5));
        tellsAsked("place()", MARKED, x -> x.place(1));
        tellsAsked("give()", MARKED, x -> x.give(1, 1));
        tellsAsked("fright()", MARKED, x -> x.fright(1));
        tellsAsked("mix()", MARKED, x -> x.mix(1, 0));
        tellsAsked("eat()", MARKED, x -> x.eat(1, 0));
        tellsAsked("undo()", MARKED, x -> x.undo(1));
        tellsAsked("keep()", MARKED, x -> x.keep(1));
        tellsAsked("on()", MARKED, x -> x.on(1));
        tellsAsked("tells()", MARKED, x -> x.tells(1, 2));
        tellsAsked("told()", MARKED, x -> x.told(7));
        tellsAsked("walk()", MARKED, x -> x.walk(0, 7, 0));
        tellsAsked("least()", MARKED, x -> x.least(7));
        tellsAsked("safe()", MARKED, x -> x.safe());
        tellsAsked("share()", MARKED, x -> x.share(0));
        tellsAsked("held()", MARKED, x -> x.held(0, 0));
        tellsAsked("kinds()", MARKED, x -> x.kinds(0, 0));
        tellsAsked("odds()", MARKED, x -> x.odds(1, 1));
        tellsAsked("mid()", MARKED, x -> x.mid(1));
        tellsAsked("lots()", MARKED, x -> x.lots(5, 1));
        tellsAsked("upper()", MARKED, x -> (int) x.upper());
        tellsAsked("lower()", MARKED, x -> (int) x.lower());
        tellsAsked("count()", MARKED, x -> x.count(2));
        tellsAsked("finding()", MARKED, x -> x.finding());
        tellsAsked("findings()", MARKED, x -> x.findings(2));
        tellsAsked("digest()", MARKED, x -> (int) x.digest());
    }

    private static void tellsRatio(String what, long upper, long lower, ToIntFunction<MemoryGeese> call) {
        MemoryGeese x = marked();
        call.applyAsInt(x);
        E.by(39);
        E.due(what + ", upper", x.upper(), upper);
        E.due(what + ", upper again", x.upper(), upper);
        E.by(40);
        E.due(what + ", lower", x.lower(), lower);
        E.due(what + ", lower again", x.lower(), lower);
    }

    private static void ratios() {
        tellsRatio("share()", 5, 2, x -> x.share(0));
        tellsRatio("share() of none: 0 by 1", 0, 1, x -> x.share(2));
        tellsRatio("held(): by 1", 1 + 2 + 2 + 6, 1, x -> x.held(0, 0));
        tellsRatio("odds() in lowest terms", 1, 4, x -> x.odds(1, 3));
        tellsRatio("odds() of never: 0 by 1", 0, 1, x -> x.odds(1, 0));
        tellsRatio("odds() of surely: 1 by 1", 1, 1, x -> x.odds(15, 12));
        tellsRatio("mid() of never: 0 by 1", 0, 1, x -> x.mid(0));
        tellsRatio("mid() of surely: by 1", 4, 1, x -> x.mid(12));
        tellsRatio("share() refused", 5, 12, x -> x.share(3));
        tellsRatio("held() refused", 5, 12, x -> x.held(0, 6));
        tellsRatio("held() of a row that is missing", 5, 12, x -> {
            x.tear(0);
            return x.held(0, 0);
        });
        tellsRatio("held() of a row that is odd", 5, 12, x -> {
            x.row(0, 1);
            return x.held(0, 0);
        });
        tellsRatio("odds() refused", 5, 12, x -> x.odds(16, 1));
        tellsRatio("odds() refused", 5, 12, x -> x.odds(1, 13));
        tellsRatio("mid() refused", 5, 12, x -> x.mid(-1));
    }

    private static void whatTellsNoRatio() {
        tellsRatio("row()", 5, 12, x -> x.row(0, 3));
        tellsRatio("lay()", 5, 12, x -> x.lay(0, 2, 9));
        tellsRatio("mean()", 5, 12, x -> x.mean(0));
        tellsRatio("flock()", 5, 12, x -> x.flock(0));
        tellsRatio("give()", 5, 12, x -> x.give(0, 1));
        tellsRatio("undo()", 5, 12, x -> x.undo(0));
        tellsRatio("on()", 5, 12, x -> x.on(0));
        tellsRatio("walk()", 5, 12, x -> x.walk(0, 3, 0));
        tellsRatio("crew()", 5, 12, x -> x.crew(3));
        tellsRatio("risk()", 5, 12, x -> x.risk());
        tellsRatio("kinds()", 5, 12, x -> x.kinds(0, 0));
        tellsRatio("lots()", 5, 12, x -> x.lots(3, 3));
        tellsRatio("digest()", 5, 12, x -> (int) x.digest());
    }

    private static void countsAre(String what, MemoryGeese x, int... want) {
        for (int k = 0; k < 9; k++) E.due(what + " count(" + k + ")", x.count(k), want[k]);
    }

    private static void counts() {
        E.by(41);
        countsAre("a new object", new MemoryGeese(), 0, 0, 0, 0, 0, 0, 0, 0, 0);
        countsAre("a village", Edge.village(), 3, 4, 3, 2, 1, 1, 6, 4, 3);
        countsAre("the least", E.flock("v0g10"), 1, 1, 1, 0, 0, 0, 0, 1, 0);
        countsAre("ganders, strays", E.flock("v01234501 a10 s10 a10 s10 a10 s10"), 6, 8, 6, 0, 6, 0, 0, 1, 0);
        countsAre("hens, goslings", E.flock("v01234501 h10 l10 h10 l10 h10 l10"), 6, 8, 6, 0, 0, 6, 0, 1, 0);
        countsAre("neither", E.flock("v01234501 g10 t10 g10 t10 g10 t10"), 6, 8, 6, 0, 0, 0, 0, 1, 0);
        MemoryGeese x = Edge.village();
        x.tear(0);
        x.tear(5);
        x.text(1, 0);
        countsAre("rows torn", x, 3, 4, 3, 2, 1, 1, 4, 4, 3);
        E.frightUpTo(x, 40, 0);
        countsAre("40 deeds", x, 3, 4, 3, 40, 1, 1, 4, 4, 3);
        x.undo(39);
        countsAre("39 deeds", x, 3, 4, 3, 39, 1, 1, 4, 4, 3);
        x.flock(0);
        countsAre("anew", x, 3, 4, 3, 0, 1, 1, 4, 4, 0);
    }

    private static void countsOfGoneOnes() {
        E.by(41);
        MemoryGeese x = E.flock("v0 g10 a10 t10 h10 l10 s10");
        for (int i = 0; i < 6; i++) {
            x.eat(i, NONE);
            countsAre("gone ones are geese, of their kinds", x, 6, 1, 5 - i, i + 1, 2, 2, 0, 1, 0);
        }
    }

    private static void findings() {
        MemoryGeese x = new MemoryGeese();
        x.row(1, 0);
        int[] order = {NOUGHT, SIZE, NOTHING, BEYOND, NOTHING, NOUGHT, NOUGHT, SIZE, BEYOND, NOUGHT};
        int[] times = new int[6];
        for (int f : order) {
            if (f == NOTHING) x.tear(0);
            if (f == BEYOND) x.at(1, 0);
            if (f == NOUGHT) x.mean(1);
            if (f == SIZE) x.row(0, -1);
            times[f]++;
            E.by(42);
            E.due("the latest", x.finding(), f);
            E.due("asking changes nothing", x.finding(), f);
            E.by(43);
            for (int k = 1; k <= 5; k++) E.due("how often " + k, x.findings(k), times[k]);
        }
        Check.write(x, 0, "v0g10");
        x.flock(0);
        x.mark(0, 1);
        E.due("how often UNLIKE", x.findings(UNLIKE), 1);
        E.by(42);
        E.due("UNLIKE", x.finding(), UNLIKE);
        x.mark(0, 0);
        x.safe();
        x.put(0, 0, 0);
        x.flock(0);
        x.row(0, 1);
        E.due("BAD, NONE, STATE are no findings", x.finding(), UNLIKE);
        E.by(43);
        E.bad("0 is none", x, () -> x.findings(0));
        E.bad("6 is none", x, () -> x.findings(6));
        E.bad("-3 is none", x, () -> x.findings(-3));
        MemoryGeese y = new MemoryGeese();
        for (int k = 0; k < 300; k++) y.at(0, 0);
        E.due("very often", y.findings(NOTHING), 300);
    }

    private static long hash(long before, long... values) {
        long h = before;
        for (long v : values) h = 31 * h + v;
        return h;
    }

    private static void digestAtFirst() {
        E.by(44);
        MemoryGeese x = new MemoryGeese();
        long want = hash(17, 0, 0, 0, 0, 0, 0, 0, 0, 0, -1, -1, -1, -1, -1, -1, -1, -1, -1, -1, -1, -1, -1);
        E.due("a new object", x.digest(), want);
        x.at(0, 0);
        x.row(9, 9);
        x.odds(0, 1);
        x.lost();
        E.due("findings, asked, upper are not in it", x.digest(), want);
        x.row(0, 0);
        want = hash(17, 0, 0, 0, 0, 0, 0, 1, 0, 0, -1, -1, -1, 0, -1, -1, -1, -1, -1, -1, -1, -1, -1);
        E.due("an empty row is there", x.digest(), want);
        x.text(3, 0);
        want = hash(17, 0, 0, 0, 0, 0, 0, 1, 1, 0, -1, -1, -1, 0, -1, -1, -1, -1, -1, -1, -1, -1, 0);
        E.due("an empty text is there", x.digest(), want);
    }

    private static void digest() {
        E.by(44);
        MemoryGeese x = E.flock("v53g3410s19h12");
        x.keep(0);
        x.give(0, 1);
        x.eat(1, NONE);
        x.keep(2);
        x.lots(1, 1);
        Check.fill(x, 5, Edge.LOW, Edge.HIGH);
        x.put(0, 13, 200);
        x.text(2, 1);
        long want = hash(17, 3, 2, 2, 2, 1, 1, 1, 2, 2, 5, 3);
        int[] lot = {48271 % 3, 48271 / 8 % 4, 48271 / 64 % 2};
        E.due("48271 is of goose 1, which is gone", lot[0], 1);
        want = hash(want, 0, 3, 4, 3, 1, 0, 0, 0, 1);
        want = hash(want, 5, 1, 9, 0, NONE, NONE, 1);
        want = hash(want, 3, 1, 2, 0, NONE, NONE, 0);
        want = hash(want, 0, -1, 2);
        want = hash(want, -1, -1, -1, -1, -1, 2, Edge.LOW, Edge.HIGH);
        want = hash(want, 14, 'v', '5', '3', 'g', '3', '4', '1', '0', 's', '1', '9', 'h', '1', -56, -1, 1, 32, -1);
        E.due("all of it", x.digest(), want);
        E.due("asking changes nothing", x.digest(), want);
        x.give(0, 0);
        x.undo(2);
        E.due("what is undone is not in it", x.digest(), want);
    }

    private static void digestOfTheGreatest() {
        E.by(44);
        String text = "v01234501" + "t8901234567".repeat(6);
        MemoryGeese x = E.flock(text + " ".repeat(80 - text.length()));
        for (int k = 0; k < 6; k++) x.row(k, 40);
        for (int t = 1; t < 4; t++) x.text(t, 80);
        for (int k = 0; k < 40; k++) x.give(5, 7);
        for (int k = 0; k < 3; k++) x.keep(k);
        long want = hash(17, 6, 8, 6, 40, 0, 0, 6, 4, 3, 0, 1, 2, 3, 4, 5, 0, 1);
        for (int i = 0; i < 6; i++) want = hash(want, 2, 8, 9, 255, 7, 0, 0, 0, 1, 2, 3, 4, 5, 6, 7);
        want = hash(want, 40, 40, 40);
        for (int r = 0; r < 6; r++) want = hash(hash(want, 40), new long[40]);
        for (int t = 0; t < 4; t++) {
            want = hash(want, 80);
            for (int i = 0; i < 80; i++) want = hash(want, t == 0 && i < text.length() ? text.charAt(i) : ' ');
        }
        E.due("everything there, with wrap-around", x.digest(), want);
    }

    /** "An object is used for at most 512 calls": the last of them answers as the first. */
    private static void manyCalls() {
        E.by(44);
        MemoryGeese x = new MemoryGeese();
        long first = x.digest();
        for (int k = 0; k < 510; k++) x.digest();
        E.due("the 512th call", x.digest(), first);
    }
}
