import java.util.Arrays;

/** A village's memory, kept by a flock of geese: each bird holds so many facts and tells them on being led past their places. */
public final class MemoryGeese {
    public static final int BAD = -1, FULL = -2, FINDING = -3, STATE = -4, SPENT = -6, NONE = -9;

    private static final int ROWS = 6, ROW_SIZE = 40, TEXTS = 4, TEXT_SIZE = 80, BLANK = 32;
    private static final int FACTS = 8, GEESE = 6, PLACES = 6, DEEDS = 40, KEPT = 3, MISSING = -1, ALL = -1;
    private static final int GOOSE = 0, GANDER = 1, TWIN = 2, HEN = 3, GOSLING = 4, STRAY = 5, KINDS = 6;
    private static final int NOTHING = 1, BEYOND = 2, UNLIKE = 3, NOUGHT = 4, SIZE = 5;
    private static final int GIVING = 0, FRIGHTENING = 1, MIXING = 2, EATING = 3, FOX = 15;
    private static final int GOOSE_QUESTIONS = 7, COUNTS = 9, MOST_GUESSED = 4, BYTE_SHIFT = 1000;
    private static final int CERTAIN = 12, MOST_LOTS = 12, LAST_SEED = 2147483646, OUT_OF_REACH = 1000;
    private static final long LOT_FACTOR = 48271L, LOT_MODULUS = 2147483647L;
    /** One fact in such parts as can be shared evenly among 1 to 6 geese. */
    private static final int PARTS = 60;
    private static final char[] LETTERS = {'g', 'a', 't', 'h', 'l', 's'};

    private final Shelf rows = new Shelf(ROWS, ROW_SIZE);
    private final Shelf texts = new Shelf(TEXTS, TEXT_SIZE);
    private final Reader reader = new Reader();
    private final Findings found = new Findings();
    private final Ratio ratio = new Ratio();
    private final Report report = new Report();
    private final Goose guess = new Goose();
    private final Log log = new Log();
    private final Log[] kept = new Log[KEPT];
    private final Flock now = new Flock();
    /** The flock ahead of all deeds; deeds are undone by doing the earlier ones anew from here. */
    private Flock start = new Flock();
    /** A text is read into this one, so that a fault leaves the flock alone. */
    private Flock draft = new Flock();
    private final int[] toldByGoose = new int[GEESE];
    private final int[] toldAtPlace = new int[PLACES];
    private final int[] tellings = new int[GEESE * PLACES];
    private final int[] cost = new int[1 << FACTS];
    private final int[] wanted = new int[FACTS];
    private final int[] takers = new int[FACTS];
    private int lastAsked;

    public MemoryGeese() {
        for (int k = 0; k < KEPT; k++) {
            kept[k] = new Log();
            kept[k].size = MISSING;
        }
    }

    // ---- 1 rows, texts, flocks

    public int row(int r, int n) {
        return layOut(rows, r, n, 0);
    }

    public int lay(int r, int i, int v) {
        int refusal = refusalOfCell(rows, r, i);
        if (refusal != 0) return refusal;
        lastAsked = rows.cells[r][i];
        rows.cells[r][i] = v;
        return 1;
    }

    public int at(int r, int i) {
        int refusal = refusalOfCell(rows, r, i);
        if (refusal != 0) return refusal;
        lastAsked = rows.cells[r][i];
        return 1;
    }

    public int tear(int r) {
        if (!rows.knows(r)) return BAD;
        if (!rows.has(r)) return found.answer(NOTHING);
        rows.sizes[r] = MISSING;
        return 1;
    }

    public int copy(int r, int i, int to, int j, int n) {
        if (!rows.knows(r) || !rows.knows(to)) return BAD;
        if (n < 0) return found.answer(SIZE);
        if (!rows.has(r) || !rows.has(to)) return found.answer(NOTHING);
        if (!rows.hasStretch(r, i, n) || !rows.hasStretch(to, j, n)) return found.answer(BEYOND);
        System.arraycopy(rows.cells[r], i, rows.cells[to], j, n);
        return 1;
    }

    public int mean(int r) {
        if (!rows.knows(r)) return BAD;
        if (!rows.has(r)) return found.answer(NOTHING);
        int size = rows.sizes[r];
        if (size == 0) return found.answer(NOUGHT);
        long sum = 0;
        for (int i = 0; i < size; i++) sum += rows.cells[r][i];
        lastAsked = (int) (sum / size);
        return 1;
    }

    public int text(int t, int n) {
        return layOut(texts, t, n, BLANK);
    }

    public int put(int t, int i, int v) {
        int refusal = refusalOfCell(texts, t, i);
        if (refusal != 0) return refusal;
        int before = texts.cells[t][i];
        texts.cells[t][i] = (byte) v;
        return before + BYTE_SHIFT;
    }

    public int fault(int t) {
        if (!texts.knows(t)) return BAD;
        if (!texts.has(t)) return found.answer(NOTHING);
        return reader.readFlock(texts.cells[t], texts.sizes[t], draft);
    }

    public int flock(int t) {
        if (!texts.knows(t)) return BAD;
        if (!texts.has(t)) return found.answer(NOTHING);
        if (reader.readFlock(texts.cells[t], texts.sizes[t], draft) != NONE) return STATE;
        Flock read = draft;
        draft = start;
        start = read;
        log.size = 0;
        for (int k = 0; k < KEPT; k++) kept[k].size = MISSING;
        repeatDeeds();
        return now.size;
    }

    public int goose(int i, int what) {
        if (!now.hasGoose(i) || what < 0 || what >= GOOSE_QUESTIONS) return BAD;
        lastAsked = now.geese[i].answer(what);
        return 1;
    }

    public int mark(int i, int kind) {
        if (!now.hasGoose(i) || kind <= GOOSE || kind >= KINDS) return BAD;
        if (!isOf(now.geese[i].kind, kind)) return found.answer(UNLIKE);
        return now.markOf(i, kind);
    }

    public int place(int fact) {
        return now.hasFact(fact) ? now.placeOf[fact] : BAD;
    }

    // ---- 2 deeds

    public int give(int i, int fact) {
        if (!now.hasGoose(i) || !now.hasFact(fact)) return BAD;
        return doDeed(GIVING, i, fact);
    }

    public int fright(int i) {
        if (!now.hasGoose(i)) return BAD;
        return doDeed(FRIGHTENING, i, 0);
    }

    public int mix(int i, int j) {
        if (!now.hasGoose(i) || !now.hasGoose(j) || i == j) return BAD;
        if (now.geese[j].gone) return STATE;
        return doDeed(MIXING, i, j);
    }

    public int eat(int i, int by) {
        if (!now.hasGoose(i) || by == i) return BAD;
        if (by == NONE) return doDeed(EATING, i, FOX);
        if (!now.hasGoose(by)) return BAD;
        if (now.geese[by].gone) return STATE;
        return doDeed(EATING, i, by);
    }

    public int undo(int n) {
        if (n < 0 || n > log.size) return BAD;
        int undone = log.size - n;
        log.size = n;
        repeatDeeds();
        return undone;
    }

    public int keep(int k) {
        if (k < 0 || k >= KEPT) return BAD;
        if (!now.hasGeese()) return STATE;
        kept[k].become(log);
        return log.size;
    }

    public int on(int k) {
        if (k < 0 || k >= KEPT) return BAD;
        if (kept[k].size == MISSING) return found.answer(NOTHING);
        log.become(kept[k]);
        repeatDeeds();
        return log.size;
    }

    // ---- 3 who tells what

    public int tells(int i, int place) {
        if (!now.hasGoose(i) || place < 0 || place >= PLACES) return BAD;
        return now.toldAt(i, place);
    }

    public int told(int geese) {
        if (!now.hasGooseSet(geese)) return BAD;
        hearAll();
        return joined(toldByGoose, geese);
    }

    public int holders(int fact) {
        if (!now.hasFact(fact)) return BAD;
        hearAll();
        lastAsked = whichHave(toldByGoose, fact);
        return now.holdersOf(fact);
    }

    public int lost() {
        return firstAndAsked(now.heldByNobody());
    }

    public int mute() {
        hearAll();
        return firstAndAsked(now.heldBySome() & ~joined(toldByGoose, ALL));
    }

    // ---- 4 walks

    public int walk(int i, int facts, int r) {
        if (!now.hasGoose(i) || !now.hasFactSet(facts) || !rows.knows(r)) return BAD;
        int places = shortestWalk(i, facts);
        if (places == NONE) return NONE;
        rows.make(r, Integer.bitCount(places), 0);
        int step = 0;
        for (int p = 0; p < PLACES; p++) {
            if ((places >> p & 1) != 0) rows.cells[r][step++] = p;
        }
        return step;
    }

    public int crew(int facts) {
        if (!now.hasFactSet(facts)) return BAD;
        hearAll();
        int best = NONE;
        for (int set = 0; set < 1 << now.size; set++) {
            boolean fewer = best == NONE || Integer.bitCount(set) < Integer.bitCount(best);
            if (fewer && (facts & ~joined(toldByGoose, set)) == 0) best = set;
        }
        if (best == NONE) return NONE;
        lastAsked = best;
        return Integer.bitCount(best);
    }

    public int least(int facts) {
        if (!now.hasFactSet(facts)) return BAD;
        int many = now.listTellings(tellings);
        cost[0] = 0;
        for (int set = 1; set <= facts; set++) {
            if ((set & ~facts) == 0) cost[set] = cheapest(set, many);
        }
        return cost[facts] >= OUT_OF_REACH ? NONE : cost[facts];
    }

    // ---- 5 what is safe

    public int risk() {
        int alone = 0;
        int worst = NONE;
        int most = 0;
        for (int i = 0; i < now.size; i++) {
            int only = now.heldOnlyBy(i);
            alone |= only;
            if (Integer.bitCount(only) > most) {
                most = Integer.bitCount(only);
                worst = i;
            }
        }
        lastAsked = worst;
        return alone;
    }

    public int safe() {
        if (!now.hasGeese()) return STATE;
        int sum = 0;
        for (int fact = 0; fact < now.facts; fact++) {
            int holders = now.holdersOf(fact);
            wanted[fact] = Math.max(0, 2 - Integer.bitCount(holders));
            takers[fact] = now.aliveSet() & ~holders;
            sum += wanted[fact];
        }
        // Each fact given is a way from a fact to a goose's free room: there are as many as the narrowest cut lets through.
        for (int set = 0; set < 1 << now.size; set++) {
            if (cutBy(set) < sum) return NONE;
        }
        return sum;
    }

    public int share(int i) {
        if (!now.hasGoose(i)) return BAD;
        hearAll();
        int parts = 0;
        for (int fact = 0; fact < now.facts; fact++) {
            // Of those who tell a fact each comes first in as many of the orders.
            int tellers = whichHave(toldByGoose, fact);
            int many = Integer.bitCount(tellers);
            if ((tellers >> i & 1) != 0 && many > 0) parts += PARTS / many;
        }
        ratio.become(parts, PARTS);
        return 1;
    }

    // ---- 6 what it held

    public int held(int i, int r) {
        if (!now.hasGoose(i) || !rows.knows(r)) return BAD;
        Goose goose = now.geese[i];
        if (goose.most > MOST_GUESSED) return STATE;
        int refusal = readReport(r);
        if (refusal != 0) return refusal;
        guess.become(goose.kind, goose.most, goose.rank);
        ratio.become(fittingRows(guess, now, report, goose.most), 1);
        return 1;
    }

    public int kinds(int i, int r) {
        if (!now.hasGoose(i) || !rows.knows(r)) return BAD;
        int refusal = readReport(r);
        if (refusal != 0) return refusal;
        int fitting = 0;
        for (int kind = 0; kind < KINDS; kind++) {
            if (report.fits(now.geese[i], kind, now.placeOf)) fitting |= 1 << kind;
        }
        return fitting;
    }

    // ---- 7 spring, years

    public int odds(int facts, int p) {
        if (!now.hasFactSet(facts) || p < 0 || p > CERTAIN) return BAD;
        long ways = 0;
        for (int set = 0; set < 1 << now.size; set++) {
            if ((facts & ~now.heldBySet(set)) == 0) ways += now.waysToReturn(set, p);
        }
        ratio.become(ways, power(CERTAIN, now.alive()));
        return 1;
    }

    public int mid(int p) {
        if (p < 0 || p > CERTAIN) return BAD;
        long ways = 0;
        for (int set = 0; set < 1 << now.size; set++) {
            ways += now.waysToReturn(set, p) * Integer.bitCount(now.heldBySet(set));
        }
        ratio.become(ways, power(CERTAIN, now.alive()));
        return 1;
    }

    public int lots(int n, int seed) {
        if (n < 1 || n > MOST_LOTS || seed < 1 || seed > LAST_SEED) return BAD;
        if (!now.hasGeese()) return STATE;
        if (log.size + n > DEEDS) return FULL;
        long lot = seed;
        for (int k = 0; k < n; k++) {
            lot = lot * LOT_FACTOR % LOT_MODULUS;
            doByLot(lot);
        }
        return Integer.bitCount(now.heldByNobody());
    }

    // ---- 8 what is told

    public int asked() {
        return lastAsked;
    }

    public long upper() {
        return ratio.above;
    }

    public long lower() {
        return ratio.below;
    }

    public int count(int what) {
        return what < 0 || what >= COUNTS ? BAD : countOf(what);
    }

    public int finding() {
        return found.latest;
    }

    public int findings(int f) {
        return f < NOTHING || f > SIZE ? BAD : found.times[f];
    }

    public long digest() {
        long h = 17;
        for (int what = 0; what < COUNTS; what++) h = 31 * h + countOf(what);
        h = now.digestFrom(h);
        for (int k = 0; k < KEPT; k++) h = 31 * h + kept[k].size;
        return texts.digestFrom(rows.digestFrom(h));
    }

    // ---- helpers of rows and texts

    private int layOut(Shelf shelf, int k, int n, int value) {
        if (!shelf.knows(k) || n > shelf.longest) return BAD;
        if (n < 0) return found.answer(SIZE);
        shelf.make(k, n, value);
        return n;
    }

    /** 0 where the cell is there. */
    private int refusalOfCell(Shelf shelf, int k, int i) {
        if (!shelf.knows(k)) return BAD;
        if (!shelf.has(k)) return found.answer(NOTHING);
        if (i < 0 || i >= shelf.sizes[k]) return found.answer(BEYOND);
        return 0;
    }

    /** 0 where the row tells what a goose told, place by place; the report has it then. */
    private int readReport(int r) {
        if (!rows.has(r)) return found.answer(NOTHING);
        int size = rows.sizes[r];
        int[] cells = rows.cells[r];
        if (size % 2 != 0) return found.answer(SIZE);
        for (int k = 0; k + 1 < size; k += 2) {
            boolean isPlace = cells[k] >= 0 && cells[k] < PLACES;
            if (!isPlace || !now.hasFactSet(cells[k + 1])) return found.answer(UNLIKE);
        }
        report.readPairs(cells, size);
        return 0;
    }

    private int countOf(int what) {
        switch (what) {
            case 0: return now.size;
            case 1: return now.facts;
            case 2: return now.alive();
            case 3: return log.size;
            case 4: return now.countOfKind(GANDER);
            case 5: return now.countOfKind(HEN);
            case 6: return rows.there();
            case 7: return texts.there();
            default: return keptFlocks();
        }
    }

    private int keptFlocks() {
        int many = 0;
        for (int k = 0; k < KEPT; k++) {
            if (kept[k].size != MISSING) many++;
        }
        return many;
    }

    // ---- helpers of deeds

    private int doDeed(int deed, int i, int other) {
        if (now.geese[i].gone) return STATE;
        if (log.size >= DEEDS) return FULL;
        log.note(deed, i, other);
        return now.perform(deed, i, other);
    }

    private void doByLot(long lot) {
        if (!now.hasGeese()) return;
        int i = (int) (lot % now.size);
        if (now.geese[i].gone) return;
        if (lot / 8 % 4 == 0) {
            doDeed(FRIGHTENING, i, 0);
        } else {
            doDeed(GIVING, i, (int) (lot / 64 % now.facts));
        }
    }

    private void repeatDeeds() {
        now.become(start);
        for (int k = 0; k < log.size; k++) now.perform(log.deedAt(k), log.doneTo(k), log.doneWith(k));
    }

    // ---- helpers of the questions

    private int firstAndAsked(int set) {
        lastAsked = Integer.bitCount(set);
        return set == 0 ? NONE : Integer.numberOfTrailingZeros(set);
    }

    /** Places by bits, or NONE. */
    private int shortestWalk(int i, int facts) {
        for (int p = 0; p < PLACES; p++) toldAtPlace[p] = now.toldAt(i, p);
        int best = NONE;
        for (int places = 0; places < 1 << PLACES; places++) {
            if ((facts & ~joined(toldAtPlace, places)) == 0 && (best == NONE || isShorter(places, best))) best = places;
        }
        return best;
    }

    /** Of as many places the walk comes first that has the first place which not both have. */
    private static boolean isShorter(int places, int others) {
        int fewer = Integer.bitCount(others) - Integer.bitCount(places);
        int unlike = places ^ others;
        return fewer > 0 || fewer == 0 && (places & unlike & -unlike) != 0;
    }

    private void hearAll() {
        for (int i = 0; i < GEESE; i++) toldByGoose[i] = now.hasGoose(i) ? now.toldSomewhere(i) : 0;
    }

    private static int joined(int[] sets, int which) {
        int all = 0;
        for (int k = 0; k < sets.length; k++) {
            if ((which >> k & 1) != 0) all |= sets[k];
        }
        return all;
    }

    private static int whichHave(int[] sets, int fact) {
        int which = 0;
        for (int k = 0; k < sets.length; k++) {
            if ((sets[k] >> fact & 1) != 0) which |= 1 << k;
        }
        return which;
    }

    /** What comes through, if the geese of the set use all their room and each other one takes each fact that it can. */
    private int cutBy(int set) {
        int sum = now.roomOf(set);
        for (int fact = 0; fact < now.facts; fact++) {
            sum += Math.min(wanted[fact], Integer.bitCount(takers[fact] & ~set));
        }
        return sum;
    }

    /** The first fact of the set must be heard by one of the tellings, so no others are tried; smaller sets have their cost. */
    private int cheapest(int set, int many) {
        int first = set & -set;
        int best = OUT_OF_REACH;
        for (int k = 0; k < many && k < tellings.length; k++) {
            if ((tellings[k] & first) != 0) best = Math.min(best, cost[set & ~tellings[k]] + 1);
        }
        return best;
    }

    /** How many rows of facts fit that begin with what the guess holds and go on with at most left facts more. */
    private static int fittingRows(Goose guess, Flock flock, Report report, int left) {
        int fitting = report.fits(guess, guess.kind, flock.placeOf) ? 1 : 0;
        if (left <= 0) return fitting;
        for (int fact = 0; fact < flock.facts; fact++) {
            if (guess.hasFact(fact)) continue;
            guess.take(fact);
            fitting += fittingRows(guess, flock, report, left - 1);
            guess.loseNewest();
        }
        return fitting;
    }

    private static long power(int base, int times) {
        long product = 1;
        for (int k = 0; k < times; k++) product *= base;
        return product;
    }

    private static boolean isOf(int kind, int above) {
        return kind == above || kind == STRAY && above == GANDER || kind == GOSLING && above == HEN;
    }

    /** Rows of ints, each of its own size or missing. */
    private static final class Shelf {
        final int longest;
        final int[][] cells;
        final int[] sizes;

        Shelf(int many, int longest) {
            this.longest = longest;
            cells = new int[many][longest];
            sizes = new int[many];
            Arrays.fill(sizes, MISSING);
        }

        boolean knows(int k) {
            return k >= 0 && k < sizes.length;
        }

        boolean has(int k) {
            return sizes[k] != MISSING;
        }

        /** In long, for a sum of two ints may be too great for an int. */
        boolean hasStretch(int k, int from, int n) {
            return from >= 0 && (long) from + n <= sizes[k];
        }

        void make(int k, int n, int value) {
            Arrays.fill(cells[k], value);
            sizes[k] = n;
        }

        int there() {
            int many = 0;
            for (int k = 0; k < sizes.length; k++) {
                if (has(k)) many++;
            }
            return many;
        }

        long digestFrom(long before) {
            long h = before;
            for (int k = 0; k < sizes.length; k++) {
                h = 31 * h + sizes[k];
                for (int i = 0; i < sizes[k]; i++) h = 31 * h + cells[k][i];
            }
            return h;
        }
    }

    /** The findings that were answered. */
    private static final class Findings {
        final int[] times = new int[SIZE + 1];
        int latest;

        int answer(int f) {
            latest = f;
            times[f]++;
            return FINDING;
        }
    }

    /** A chance or a share in lowest terms. */
    private static final class Ratio {
        long above = 0;
        long below = 1;

        void become(long up, long low) {
            long divisor = greatestDivisor(up, low);
            if (divisor == 0) return;
            above = up / divisor;
            below = low / divisor;
        }

        /** Remainders at least halve in two steps, so 200 are plenty for longs. */
        private static long greatestDivisor(long a, long b) {
            long greater = a;
            long lesser = b;
            for (int step = 0; step < 200 && lesser != 0; step++) {
                long rest = greater % lesser;
                greater = lesser;
                lesser = rest;
            }
            return greater;
        }
    }

    /** Deeds in their order, with whom they were done, and with what. */
    private static final class Log {
        private final int[] deeds = new int[DEEDS];
        int size;

        void become(Log other) {
            System.arraycopy(other.deeds, 0, deeds, 0, DEEDS);
            size = other.size;
        }

        void note(int deed, int i, int other) {
            if (size >= DEEDS) return;
            deeds[size++] = deed << 8 | i << 4 | other;
        }

        int deedAt(int k) {
            return deeds[k] >> 8;
        }

        int doneTo(int k) {
            return deeds[k] >> 4 & 15;
        }

        int doneWith(int k) {
            return deeds[k] & 15;
        }
    }

    /** What a goose told at places where it was led past. */
    private static final class Report {
        private static final int UNSAID = -1;
        private final int[] sets = new int[PLACES];
        private boolean contradicts;

        void readPairs(int[] cells, int size) {
            Arrays.fill(sets, UNSAID);
            contradicts = false;
            for (int k = 0; k + 1 < size; k += 2) {
                int place = cells[k];
                if (sets[place] != UNSAID && sets[place] != cells[k + 1]) contradicts = true;
                sets[place] = cells[k + 1];
            }
        }

        boolean fits(Goose goose, int asKind, int[] placeOf) {
            if (contradicts) return false;
            for (int p = 0; p < PLACES; p++) {
                if (sets[p] != UNSAID && sets[p] != goose.toldAs(asKind, p, placeOf)) return false;
            }
            return true;
        }
    }

    /** A bird of a kind with the facts that it holds, the oldest first. */
    private static final class Goose {
        private final int[] facts = new int[FACTS];
        private int many;
        int kind;
        int most;
        int rank;
        boolean gone;

        void become(int newKind, int newMost, int newRank) {
            kind = newKind;
            most = newMost;
            rank = newRank;
            many = 0;
            gone = false;
        }

        void becomeLike(Goose other) {
            become(other.kind, other.most, other.rank);
            System.arraycopy(other.facts, 0, facts, 0, FACTS);
            many = other.many;
            gone = other.gone;
        }

        boolean hasFact(int fact) {
            return placeInOrder(fact) != NONE;
        }

        boolean isFilled() {
            return many >= most;
        }

        int room() {
            return gone ? 0 : most - many;
        }

        int newest() {
            return many > 0 ? facts[many - 1] : NONE;
        }

        int oldest() {
            return many > 0 ? facts[0] : NONE;
        }

        int set() {
            int set = 0;
            for (int k = 0; k < many; k++) set |= 1 << facts[k];
            return set;
        }

        int answer(int what) {
            switch (what) {
                case 0: return kind;
                case 1: return most;
                case 2: return rank;
                case 3: return set();
                case 4: return newest();
                case 5: return oldest();
                default: return gone ? 1 : 0;
            }
        }

        /** Which fact fell out. */
        int take(int fact) {
            int fallen = NONE;
            int before = placeInOrder(fact);
            if (before != NONE) {
                removeAt(before);
            } else if (isFilled()) {
                fallen = oldest();
                removeAt(0);
            }
            if (many < FACTS) facts[many++] = fact;
            return fallen;
        }

        int loseNewest() {
            int fact = newest();
            if (many > 0) many--;
            return fact;
        }

        void leave() {
            many = 0;
            gone = true;
        }

        int toldAs(int asKind, int place, int[] placeOf) {
            if (isOf(asKind, HEN) && isFilled()) return 0;
            if (asKind == STRAY && place == 0) return 0;
            int set = 0;
            for (int k = many - 1; k >= 0; k--) {
                int fact = facts[k];
                if (asKind == GOSLING && fact % 2 == 0) continue;
                if (!isCalledBy(asKind, place, placeOf[fact])) continue;
                set |= 1 << fact;
                if (isOf(asKind, GANDER)) break;
            }
            return set;
        }

        private static boolean isCalledBy(int asKind, int place, int placeOfFact) {
            return placeOfFact == place || asKind == TWIN && placeOfFact == (place + 1) % PLACES;
        }

        private int placeInOrder(int fact) {
            for (int k = 0; k < many; k++) {
                if (facts[k] == fact) return k;
            }
            return NONE;
        }

        private void removeAt(int place) {
            if (place < 0 || place >= many) return;
            for (int k = place; k + 1 < many; k++) facts[k] = facts[k + 1];
            many--;
        }

        long digestFrom(long before) {
            long h = before;
            for (int what = 0; what < GOOSE_QUESTIONS; what++) h = 31 * h + answer(what);
            for (int k = 0; k < many; k++) h = 31 * h + facts[k];
            return h;
        }
    }

    /** The facts with their places, and the geese as they are. */
    private static final class Flock {
        final int[] placeOf = new int[FACTS];
        final Goose[] geese = new Goose[GEESE];
        int facts;
        int size;

        Flock() {
            for (int i = 0; i < GEESE; i++) geese[i] = new Goose();
        }

        void become(Flock other) {
            System.arraycopy(other.placeOf, 0, placeOf, 0, FACTS);
            facts = other.facts;
            size = other.size;
            for (int i = 0; i < size; i++) geese[i].becomeLike(other.geese[i]);
        }

        boolean hasGeese() {
            return size > 0 && facts > 0;
        }

        boolean hasGoose(int i) {
            return i >= 0 && i < size;
        }

        boolean hasFact(int fact) {
            return fact >= 0 && fact < facts;
        }

        boolean hasFactSet(int set) {
            return set >= 0 && set < 1 << facts;
        }

        boolean hasGooseSet(int set) {
            return set >= 0 && set < 1 << size;
        }

        int aliveSet() {
            int set = 0;
            for (int i = 0; i < size; i++) {
                if (!geese[i].gone) set |= 1 << i;
            }
            return set;
        }

        int alive() {
            return Integer.bitCount(aliveSet());
        }

        int countOfKind(int kind) {
            int many = 0;
            for (int i = 0; i < size; i++) {
                if (isOf(geese[i].kind, kind)) many++;
            }
            return many;
        }

        // ---- what is done

        int perform(int deed, int i, int other) {
            switch (deed) {
                case GIVING: return geese[i].take(other);
                case FRIGHTENING: return geese[i].loseNewest();
                case MIXING: return mixAtPond(i, other);
                default: return devour(i, other);
            }
        }

        private int mixAtPond(int i, int j) {
            int ranks = geese[i].rank - geese[j].rank;
            boolean firstGives = ranks > 0 || ranks == 0 && i < j;
            int fact = geese[firstGives ? i : j].newest();
            if (fact != NONE) geese[firstGives ? j : i].take(fact);
            return fact;
        }

        private int devour(int i, int by) {
            Goose eaten = geese[i];
            if (by != FOX) {
                for (int k = 0; k < eaten.many; k++) geese[by].take(eaten.facts[k]);
            }
            eaten.leave();
            return Integer.bitCount(heldByNobody());
        }

        // ---- who holds what

        int heldBySet(int set) {
            int all = 0;
            for (int i = 0; i < size; i++) {
                if ((set >> i & 1) != 0) all |= geese[i].set();
            }
            return all;
        }

        int heldBySome() {
            return heldBySet(ALL);
        }

        int heldByNobody() {
            return (1 << facts) - 1 & ~heldBySome();
        }

        int heldOnlyBy(int i) {
            return geese[i].set() & ~heldBySet(~(1 << i));
        }

        int holdersOf(int fact) {
            int set = 0;
            for (int i = 0; i < size; i++) {
                if (geese[i].hasFact(fact)) set |= 1 << i;
            }
            return set;
        }

        // ---- who tells what

        int toldAt(int i, int place) {
            return geese[i].toldAs(geese[i].kind, place, placeOf);
        }

        int toldSomewhere(int i) {
            int set = 0;
            for (int p = 0; p < PLACES; p++) set |= toldAt(i, p);
            return set;
        }

        /** All sets that some goose tells at some place, but empty ones: how many. */
        int listTellings(int[] into) {
            int many = 0;
            for (int i = 0; i < size; i++) {
                for (int p = 0; p < PLACES; p++) {
                    int set = toldAt(i, p);
                    if (set != 0 && many < into.length) into[many++] = set;
                }
            }
            return many;
        }

        // ---- marks of the kinds

        int markOf(int i, int kind) {
            Goose goose = geese[i];
            switch (kind) {
                case GANDER: return placesWithTelling(i);
                case TWIN: return toldTwice(i);
                case HEN: return goose.room();
                case GOSLING: return Integer.bitCount(goose.set() & ~toldSomewhere(i));
                default: return Integer.bitCount(heldOnlyBy(i));
            }
        }

        private int placesWithTelling(int i) {
            int many = 0;
            for (int p = 0; p < PLACES; p++) {
                if (toldAt(i, p) != 0) many++;
            }
            return many;
        }

        private int toldTwice(int i) {
            int once = 0;
            int twice = 0;
            for (int p = 0; p < PLACES; p++) {
                int set = toldAt(i, p);
                twice |= once & set;
                once |= set;
            }
            return Integer.bitCount(twice);
        }

        // ---- what is safe, what comes back

        int roomOf(int set) {
            int sum = 0;
            for (int i = 0; i < size; i++) {
                if ((set >> i & 1) != 0) sum += geese[i].room();
            }
            return sum;
        }

        /** In how many of 12 ways for each goose just this set comes back; none, if one of it is gone. */
        long waysToReturn(int set, int p) {
            long ways = 1;
            for (int i = 0; i < size; i++) {
                boolean back = (set >> i & 1) != 0;
                if (geese[i].gone) {
                    if (back) return 0;
                } else {
                    ways *= back ? p : CERTAIN - p;
                }
            }
            return ways;
        }

        long digestFrom(long before) {
            long h = before;
            for (int fact = 0; fact < facts; fact++) h = 31 * h + placeOf[fact];
            for (int i = 0; i < size; i++) h = geese[i].digestFrom(h);
            return h;
        }
    }

    /** Reads a flock from a text, up to the first place at which it can't go on. */
    private static final class Reader {
        private int[] bytes;
        private int size;
        private int next;
        private Flock flock;

        /** The place of the fault, or NONE. */
        int readFlock(int[] fromBytes, int fromSize, Flock into) {
            bytes = fromBytes;
            size = fromSize;
            next = 0;
            flock = into;
            flock.facts = 0;
            flock.size = 0;
            skipBlanks();
            if (!readVillage()) return next;
            skipBlanks();
            for (int k = 0; k < GEESE && next < size; k++) {
                if (!readGoose()) return next;
                skipBlanks();
            }
            return next < size || flock.size == 0 ? next : NONE;
        }

        private void skipBlanks() {
            while (next < size && bytes[next] == BLANK) next++;
        }

        private boolean readVillage() {
            if (next >= size || bytes[next] != 'v') return false;
            for (next++; next < size && figure() != NONE; next++) {
                if (figure() >= PLACES || flock.facts >= FACTS) return false;
                flock.placeOf[flock.facts++] = figure();
            }
            return flock.facts > 0;
        }

        private boolean readGoose() {
            int kind = letter();
            if (kind == NONE || flock.size >= GEESE) return false;
            next++;
            int most = figure();
            if (most < 1 || most > FACTS) return false;
            next++;
            int rank = figure();
            if (rank == NONE) return false;
            Goose goose = flock.geese[flock.size];
            goose.become(kind, most, rank);
            for (next++; next < size && figure() != NONE; next++) {
                int fact = figure();
                if (!flock.hasFact(fact) || goose.hasFact(fact) || goose.isFilled()) return false;
                goose.take(fact);
            }
            flock.size++;
            return true;
        }

        private int letter() {
            for (int kind = 0; kind < KINDS && next < size; kind++) {
                if (bytes[next] == LETTERS[kind]) return kind;
            }
            return NONE;
        }

        private int figure() {
            return next < size && bytes[next] >= '0' && bytes[next] <= '9' ? bytes[next] - '0' : NONE;
        }
    }
}
