import java.util.Random;

/** Runs of 512 calls at most, the same on the class and on the naive model, with every answer and all that is told compared. */
public final class ModelTests {
    private static final int RUNS = 1500;
    private static final Check C = new Check("ModelTests");

    private final Random dice;
    private final int run;
    private final MemoryGeese x = new MemoryGeese();
    private final Model m = new Model();
    private String call = "";

    private ModelTests(int run) {
        this.run = run;
        dice = new Random(run);
    }

    public static void main(String[] args) {
        for (int run = 0; run < RUNS; run++) new ModelTests(run).go();
        C.end();
    }

    private void go() {
        for (int k = 0; k < 40; k++) {
            if (k == 0 || dice.nextInt(25) == 0) layText();
            for (int n = 0; n < 4; n++) step(dice.nextInt(42));
        }
    }

    private void same(int got, int want) {
        String where = "run " + run + ": " + call;
        C.due(where, got, want);
        C.due(where + ": asked()", x.asked(), m.asked);
        C.due(where + ": upper()", x.upper(), m.upper.longValueExact());
        C.due(where + ": lower()", x.lower(), m.lower.longValueExact());
        C.due(where + ": finding()", x.finding(), m.finding);
        C.due(where + ": digest()", x.digest(), m.digest());
    }

    /** Mostly within a size, now and then a little or far outside. */
    private int pick(int size) {
        int v = dice.nextInt(24);
        if (v == 0) return -1;
        if (v == 1) return size;
        if (v == 2) return new int[] {Integer.MIN_VALUE, Integer.MAX_VALUE, -9, size + 1}[dice.nextInt(4)];
        return size <= 0 ? 0 : dice.nextInt(size);
    }

    private int goose() {
        return pick(m.birds.size());
    }

    private int fact() {
        return pick(m.places.size());
    }

    private int facts() {
        int v = pick(1 << m.places.size());
        return dice.nextBoolean() || v < 0 ? v : v & dice.nextInt(256);
    }

    private String goodText() {
        StringBuilder s = new StringBuilder();
        blanks(s);
        s.append('v');
        int facts = 1 + dice.nextInt(8);
        int span = 1 + dice.nextInt(6);
        for (int f = 0; f < facts; f++) s.append(dice.nextInt(span));
        blanks(s);
        int geese = 1 + dice.nextInt(6);
        for (int i = 0; i < geese; i++) {
            int most = 1 + dice.nextInt(dice.nextBoolean() ? 8 : 4);
            s.append("gathls".charAt(dice.nextInt(6))).append(most).append(dice.nextInt(dice.nextBoolean() ? 10 : 2));
            int set = 0;
            int wanted = dice.nextInt(most + 1);
            for (int k = 0; k < wanted; k++) {
                int f = dice.nextInt(facts);
                if ((set >> f & 1) == 0) s.append(f);
                set |= 1 << f;
            }
            blanks(s);
        }
        return s.toString();
    }

    private void blanks(StringBuilder s) {
        for (int k = dice.nextInt(3); k > 1; k--) s.append(' ');
    }

    private void layText() {
        StringBuilder s = new StringBuilder(goodText());
        int changes = dice.nextInt(3) == 0 ? 1 + dice.nextInt(2) : 0;
        for (int k = 0; k < changes && s.length() > 0; k++) {
            int i = dice.nextInt(s.length());
            int how = dice.nextInt(4);
            char c = "v gathls0123456789 xG".charAt(dice.nextInt(21));
            if (how == 0) s.deleteCharAt(i);
            else if (how == 1) s.insert(i, c);
            else if (how == 2) s.setCharAt(i, c);
            else s.setLength(i);
        }
        if (s.length() > 80) s.setLength(80);
        if (dice.nextInt(6) == 0) s.insert(0, " ".repeat(80 - s.length()));
        int t = dice.nextInt(4);
        x.text(t, s.length());
        m.text(t, s.length());
        for (int i = 0; i < s.length(); i++) {
            x.put(t, i, s.charAt(i));
            m.put(t, i, s.charAt(i));
        }
        call = "fault of '" + s + "'";
        same(x.fault(t), m.fault(t));
        call = "flock of '" + s + "'";
        same(x.flock(t), m.flock(t));
    }

    /** A row of what a goose tells, or of what another one would, or of anything. */
    private void layPairs(int r) {
        int pairs = dice.nextInt(20) == 0 ? 20 : dice.nextInt(4);
        int size = Math.min(40, 2 * pairs + (dice.nextInt(12) == 0 ? 1 : 0));
        x.row(r, size);
        m.row(r, size);
        for (int k = 0; k + 1 < size; k += 2) {
            int place = dice.nextInt(15) == 0 ? pick(6) : dice.nextInt(6);
            int said = m.birds.isEmpty() ? 0 : Math.max(0, m.tells(dice.nextInt(m.birds.size()), place));
            int set = dice.nextInt(15) == 0 ? pick(256) : dice.nextInt(3) == 0 ? 0 : said;
            x.lay(r, k, place);
            m.lay(r, k, place);
            x.lay(r, k + 1, set);
            m.lay(r, k + 1, set);
        }
    }

    private void step(int which) {
        if (which < 13) stepOfRows(which);
        else if (which < 20) stepOfDeeds(which);
        else stepOfQuestions(which);
    }

    private void stepOfRows(int which) {
        int size = dice.nextInt(4) == 0 ? 40 : 6;
        int r = pick(6), i = pick(size), to = pick(6), j = pick(size), n = pick(size + 1), v = dice.nextInt(5) == 0 ? dice.nextInt() : pick(9), t = pick(4);
        call = "call " + which + " (" + r + ", " + i + ", " + to + ", " + j + ", " + n + ", " + v + ", " + t + ")";
        switch (which) {
            case 0: same(x.row(r, n), m.row(r, n)); break;
            case 1: same(x.lay(r, i, v), m.lay(r, i, v)); break;
            case 2: same(x.at(r, i), m.at(r, i)); break;
            case 3: same(x.tear(r), m.tear(r)); break;
            case 4: same(x.copy(r, i, to, j, n), m.copy(r, i, to, j, n)); break;
            case 5: same(x.mean(r), m.mean(r)); break;
            case 6: if (dice.nextInt(8) == 0) same(x.text(t, n), m.text(t, n)); break;
            case 7: if (dice.nextInt(8) == 0) same(x.put(t, i, v), m.put(t, i, v)); break;
            case 8: same(x.fault(t), m.fault(t)); break;
            case 9: if (dice.nextInt(12) == 0) same(x.flock(t), m.flock(t)); break;
            case 10: i = goose(); n = pick(7); same(x.goose(i, n), m.goose(i, n)); break;
            case 11: i = goose(); n = pick(6); same(x.mark(i, n), m.mark(i, n)); break;
            default: i = fact(); same(x.place(i), m.place(i)); break;
        }
    }

    private void stepOfDeeds(int which) {
        int i = goose(), f = fact(), j = goose(), n = pick(m.past.size() + 1), k = pick(3);
        int by = dice.nextInt(3) == 0 ? -9 : j;
        call = "call " + which + " (" + i + ", " + f + ", " + j + ", " + n + ", " + k + ", " + by + ")";
        for (int again = dice.nextInt(4); again >= 0; again--) {
            switch (which) {
                case 13: same(x.give(i, f), m.give(i, f)); f = fact(); i = goose(); break;
                case 14: same(x.fright(i), m.fright(i)); break;
                case 15: same(x.mix(i, j), m.mix(i, j)); j = goose(); break;
                case 16: if (dice.nextInt(4) == 0) same(x.eat(i, by), m.eat(i, by)); break;
                case 17: if (dice.nextInt(4) == 0) same(x.undo(n), m.undo(n)); break;
                case 18: same(x.keep(k), m.keep(k)); break;
                default: if (dice.nextInt(4) == 0) same(x.on(k), m.on(k)); break;
            }
            call = "again " + call;
        }
    }

    private void stepOfQuestions(int which) {
        int i = goose(), p = pick(6), f = fact(), set = facts(), r = pick(6), q = pick(13), g = pick(1 << m.birds.size());
        int seed = dice.nextInt(10) == 0 ? pick(3) : 1 + dice.nextInt(2147483646), n = pick(13);
        call = "call " + which + " (" + i + ", " + p + ", " + f + ", " + set + ", " + r + ", " + q + ", " + g + ", " + seed + ", " + n + ")";
        switch (which) {
            case 20: same(x.tells(i, p), m.tells(i, p)); break;
            case 21: same(x.told(g), m.told(g)); break;
            case 22: same(x.holders(f), m.holders(f)); break;
            case 23: same(x.lost(), m.lost()); break;
            case 24: same(x.mute(), m.mute()); break;
            case 25: case 40:
                if (dice.nextBoolean() && i >= 0 && i < m.birds.size()) set = m.told(1 << i) & (dice.nextBoolean() ? 255 : set);
                same(x.walk(i, set, r), m.walk(i, set, r));
                break;
            case 26: same(x.crew(set), m.crew(set)); break;
            case 27: same(x.least(set), m.least(set)); break;
            case 28: same(x.risk(), m.risk()); break;
            case 29: case 41: same(x.safe(), m.safe()); break;
            case 30: same(x.share(i), m.share(i)); break;
            case 31: if (r >= 0 && r < 6) layPairs(r); same(x.held(i, r), m.held(i, r)); break;
            case 32: if (r >= 0 && r < 6) layPairs(r); same(x.kinds(i, r), m.kinds(i, r)); break;
            case 33: same(x.odds(set, q), m.odds(set, q)); break;
            case 34: same(x.mid(q), m.mid(q)); break;
            case 35: same(x.lots(n, seed), m.lots(n, seed)); break;
            case 36: q = pick(9); same(x.count(q), m.count(q)); break;
            case 37: same(x.findings(p), m.findings(p)); break;
            case 38: same(x.held(i, r), m.held(i, r)); break;
            default: same(x.kinds(i, r), m.kinds(i, r)); break;
        }
    }
}
