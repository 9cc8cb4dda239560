import java.math.BigInteger;
import java.util.ArrayList;
import java.util.HashMap;
import java.util.List;
import java.util.Map;
import java.util.TreeSet;

/** The document once more, in the most naive way that there is: whole copies, all orders, all walks. */
final class Model {
    static final int BAD = -1, FULL = -2, FINDING = -3, STATE = -4, NONE = -9;

    static final class Bird {
        int kind, most, rank;
        boolean gone;
        List<Integer> facts = new ArrayList<>();

        Bird twin() {
            Bird b = new Bird();
            b.kind = kind;
            b.most = most;
            b.rank = rank;
            b.gone = gone;
            b.facts = new ArrayList<>(facts);
            return b;
        }
    }

    final int[][] rows = new int[6][];
    final byte[][] texts = new byte[4][];
    List<Integer> places = new ArrayList<>();
    List<Bird> birds = new ArrayList<>();
    /** The birds ahead of each deed. */
    List<List<Bird>> past = new ArrayList<>();
    final Object[][] kept = new Object[3][];
    int asked, finding;
    final int[] findings = new int[6];
    BigInteger upper = BigInteger.ZERO, lower = BigInteger.ONE;

    private int find(int f) {
        finding = f;
        findings[f]++;
        return FINDING;
    }

    private static boolean in(int v, int size) {
        return 0 <= v && v < size;
    }

    private int ratio(BigInteger up, BigInteger low) {
        BigInteger g = up.gcd(low);
        upper = up.divide(g);
        lower = low.divide(g);
        return 1;
    }

    private static List<Bird> copyOf(List<Bird> from) {
        List<Bird> all = new ArrayList<>();
        for (Bird b : from) all.add(b.twin());
        return all;
    }

    int row(int r, int n) {
        if (!in(r, 6) || n > 40) return BAD;
        if (n < 0) return find(5);
        rows[r] = new int[n];
        return n;
    }

    int lay(int r, int i, int v) {
        if (!in(r, 6)) return BAD;
        if (rows[r] == null) return find(1);
        if (!in(i, rows[r].length)) return find(2);
        asked = rows[r][i];
        rows[r][i] = v;
        return 1;
    }

    int at(int r, int i) {
        if (!in(r, 6)) return BAD;
        if (rows[r] == null) return find(1);
        if (!in(i, rows[r].length)) return find(2);
        asked = rows[r][i];
        return 1;
    }

    int tear(int r) {
        if (!in(r, 6)) return BAD;
        if (rows[r] == null) return find(1);
        rows[r] = null;
        return 1;
    }

    int copy(int r, int i, int to, int j, int n) {
        if (!in(r, 6) || !in(to, 6)) return BAD;
        if (n < 0) return find(5);
        if (rows[r] == null || rows[to] == null) return find(1);
        int[] from = rows[r].clone();
        if (i < 0 || j < 0 || (long) i + n > from.length || (long) j + n > rows[to].length) return find(2);
        for (int k = 0; k < n; k++) rows[to][j + k] = from[i + k];
        return 1;
    }

    int mean(int r) {
        if (!in(r, 6)) return BAD;
        if (rows[r] == null) return find(1);
        if (rows[r].length == 0) return find(4);
        BigInteger sum = BigInteger.ZERO;
        for (int v : rows[r]) sum = sum.add(BigInteger.valueOf(v));
        asked = sum.divide(BigInteger.valueOf(rows[r].length)).intValueExact();
        return 1;
    }

    int text(int t, int n) {
        if (!in(t, 4) || n > 80) return BAD;
        if (n < 0) return find(5);
        texts[t] = new byte[n];
        for (int i = 0; i < n; i++) texts[t][i] = ' ';
        return n;
    }

    int put(int t, int i, int v) {
        if (!in(t, 4)) return BAD;
        if (texts[t] == null) return find(1);
        if (!in(i, texts[t].length)) return find(2);
        int before = texts[t][i];
        texts[t][i] = (byte) v;
        return before + 1000;
    }

    /** Whether some flock's text begins with this string: the fault is the first place where that ends. */
    private static boolean begins(String s) {
        String[] parts = s.split(" ", -1);
        boolean village = false;
        int facts = 0;
        int geese = 0;
        for (int k = 0; k < parts.length; k++) {
            String rest = parts[k];
            boolean last = k == parts.length - 1;
            if (rest.isEmpty()) continue;
            if (!village) {
                if (!rest.matches("v([0-5]{1,8})?([gathls].*)?") || rest.matches("v[gathls].*")) return false;
                String figures = rest.substring(1).replaceAll("[gathls].*", "");
                if (figures.isEmpty() && !last) return false;
                facts = figures.length();
                village = true;
                rest = rest.substring(1 + facts);
            }
            while (!rest.isEmpty()) {
                String goose = rest.substring(0, 1) + rest.substring(1).replaceAll("[^0-9].*", "");
                rest = rest.substring(goose.length());
                if (++geese > 6 || !isGoose(goose, facts, last && rest.isEmpty())) return false;
            }
        }
        return true;
    }

    private static boolean isGoose(String g, int facts, boolean mayEnd) {
        if (!g.matches("[gathls]([1-8]([0-9][0-7]*)?)?")) return false;
        if (g.length() < 3) return mayEnd;
        TreeSet<Character> unlike = new TreeSet<>();
        for (char c : g.substring(3).toCharArray()) {
            if (c - '0' >= facts || !unlike.add(c)) return false;
        }
        return unlike.size() <= g.charAt(1) - '0';
    }

    private static boolean isWhole(String s) {
        return s.matches(" *v[0-5]+ *(?:[gathls][1-8][0-9][0-7]* *)+");
    }

    int fault(int t) {
        if (!in(t, 4)) return BAD;
        if (texts[t] == null) return find(1);
        StringBuilder s = new StringBuilder();
        for (byte b : texts[t]) s.append((char) (b & 255));
        for (int n = 1; n <= s.length(); n++) {
            if (!begins(s.substring(0, n))) return n - 1;
        }
        return isWhole(s.toString()) ? NONE : s.length();
    }

    int flock(int t) {
        if (!in(t, 4)) return BAD;
        if (texts[t] == null) return find(1);
        if (fault(t) != NONE) return STATE;
        String s = new String(texts[t], java.nio.charset.StandardCharsets.ISO_8859_1).replace(" ", "");
        places = new ArrayList<>();
        birds = new ArrayList<>();
        past = new ArrayList<>();
        for (int k = 0; k < 3; k++) kept[k] = null;
        String head = s.replaceAll("[gathls].*", "");
        for (char c : head.substring(1).toCharArray()) places.add(c - '0');
        for (String g : s.substring(head.length()).split("(?=[gathls])")) {
            Bird b = new Bird();
            b.kind = "gathls".indexOf(g.charAt(0));
            b.most = g.charAt(1) - '0';
            b.rank = g.charAt(2) - '0';
            for (char c : g.substring(3).toCharArray()) b.facts.add(c - '0');
            birds.add(b);
        }
        return birds.size();
    }

    int goose(int i, int what) {
        if (!in(i, birds.size()) || !in(what, 7)) return BAD;
        asked = about(birds.get(i), what);
        return 1;
    }

    private static int about(Bird b, int what) {
        int n = b.facts.size();
        switch (what) {
            case 0: return b.kind;
            case 1: return b.most;
            case 2: return b.rank;
            case 3: return setOf(b.facts);
            case 4: return n == 0 ? NONE : b.facts.get(n - 1);
            case 5: return n == 0 ? NONE : b.facts.get(0);
            default: return b.gone ? 1 : 0;
        }
    }

    private static int setOf(Iterable<Integer> all) {
        int set = 0;
        for (int f : all) set |= 1 << f;
        return set;
    }

    private static boolean is(int kind, int above) {
        int k = kind;
        while (k != above && k != 0) k = k == 4 ? 3 : k == 5 ? 1 : 0;
        return k == above;
    }

    private TreeSet<Integer> telling(Bird b, int kind, int place) {
        TreeSet<Integer> set = new TreeSet<>();
        int newest = NONE;
        for (int f : b.facts) {
            int p = places.get(f);
            if (p == place || kind == 2 && (p + 5) % 6 == place) {
                set.add(f);
                newest = f;
            }
        }
        if (is(kind, 1)) {
            set.clear();
            if (newest != NONE) set.add(newest);
        }
        if (kind == 5 && place == 0) set.clear();
        if (is(kind, 3) && b.facts.size() == b.most) set.clear();
        if (kind == 4) set.removeIf(f -> f % 2 == 0);
        return set;
    }

    private TreeSet<Integer> somewhere(Bird b) {
        TreeSet<Integer> all = new TreeSet<>();
        for (int p = 0; p < 6; p++) all.addAll(telling(b, b.kind, p));
        return all;
    }

    int mark(int i, int kind) {
        if (!in(i, birds.size()) || kind < 1 || kind > 5) return BAD;
        Bird b = birds.get(i);
        if (!is(b.kind, kind)) return find(3);
        if (b.gone) return 0;
        int many = 0;
        if (kind == 1) {
            for (int p = 0; p < 6; p++) many += telling(b, b.kind, p).isEmpty() ? 0 : 1;
        } else if (kind == 2) {
            for (int f : b.facts) {
                int at = 0;
                for (int p = 0; p < 6; p++) at += telling(b, b.kind, p).contains(f) ? 1 : 0;
                many += at == 2 ? 1 : 0;
            }
        } else if (kind == 3) {
            many = b.most - b.facts.size();
        } else if (kind == 4) {
            for (int f : b.facts) many += somewhere(b).contains(f) ? 0 : 1;
        } else {
            for (int f : b.facts) {
                boolean other = false;
                for (Bird o : birds) other |= o != b && o.facts.contains(f);
                many += other ? 0 : 1;
            }
        }
        return many;
    }

    int place(int fact) {
        return in(fact, places.size()) ? places.get(fact) : BAD;
    }

    private static int giveTo(Bird b, int fact) {
        b.facts.remove((Integer) fact);
        b.facts.add(fact);
        return b.facts.size() > b.most ? b.facts.remove(0) : NONE;
    }

    private int refused(int i, int j) {
        if (birds.get(i).gone || birds.get(j).gone) return STATE;
        if (past.size() == 40) return FULL;
        past.add(copyOf(birds));
        return 0;
    }

    int give(int i, int fact) {
        if (!in(i, birds.size()) || !in(fact, places.size())) return BAD;
        int no = refused(i, i);
        return no != 0 ? no : giveTo(birds.get(i), fact);
    }

    int fright(int i) {
        if (!in(i, birds.size())) return BAD;
        int no = refused(i, i);
        if (no != 0) return no;
        List<Integer> facts = birds.get(i).facts;
        return facts.isEmpty() ? NONE : facts.remove(facts.size() - 1);
    }

    int mix(int i, int j) {
        if (!in(i, birds.size()) || !in(j, birds.size()) || i == j) return BAD;
        int no = refused(i, j);
        if (no != 0) return no;
        Bird a = birds.get(Math.min(i, j));
        Bird b = birds.get(Math.max(i, j));
        Bird giver = a.rank >= b.rank ? a : b;
        int fact = about(giver, 4);
        if (fact != NONE) giveTo(giver == a ? b : a, fact);
        return fact;
    }

    private TreeSet<Integer> nobody() {
        TreeSet<Integer> all = new TreeSet<>();
        for (int f = 0; f < places.size(); f++) all.add(f);
        for (Bird b : birds) all.removeAll(b.facts);
        return all;
    }

    int eat(int i, int by) {
        if (!in(i, birds.size()) || by != NONE && !in(by, birds.size()) || i == by) return BAD;
        int no = refused(i, by == NONE ? i : by);
        if (no != 0) return no;
        Bird eaten = birds.get(i);
        if (by != NONE) {
            for (int f : eaten.facts) giveTo(birds.get(by), f);
        }
        eaten.facts.clear();
        eaten.gone = true;
        return nobody().size();
    }

    int undo(int n) {
        if (n < 0 || n > past.size()) return BAD;
        int many = past.size() - n;
        while (past.size() > n) birds = past.remove(past.size() - 1);
        return many;
    }

    int keep(int k) {
        if (!in(k, 3)) return BAD;
        if (birds.isEmpty()) return STATE;
        List<List<Bird>> all = new ArrayList<>();
        for (List<Bird> p : past) all.add(copyOf(p));
        kept[k] = new Object[] {copyOf(birds), all};
        return past.size();
    }

    @SuppressWarnings("unchecked")
    int on(int k) {
        if (!in(k, 3)) return BAD;
        if (kept[k] == null) return find(1);
        birds = copyOf((List<Bird>) kept[k][0]);
        past = new ArrayList<>();
        for (List<Bird> p : (List<List<Bird>>) kept[k][1]) past.add(copyOf(p));
        return past.size();
    }

    int tells(int i, int place) {
        if (!in(i, birds.size()) || !in(place, 6)) return BAD;
        return setOf(telling(birds.get(i), birds.get(i).kind, place));
    }

    int told(int geese) {
        if (!in(geese, 1 << birds.size())) return BAD;
        int set = 0;
        for (int i = 0; i < birds.size(); i++) {
            if ((geese & 1 << i) != 0) set |= setOf(somewhere(birds.get(i)));
        }
        return set;
    }

    int holders(int fact) {
        if (!in(fact, places.size())) return BAD;
        int hold = 0;
        asked = 0;
        for (int i = 0; i < birds.size(); i++) {
            if (birds.get(i).facts.contains(fact)) hold |= 1 << i;
            if (somewhere(birds.get(i)).contains(fact)) asked |= 1 << i;
        }
        return hold;
    }

    int lost() {
        asked = nobody().size();
        return asked == 0 ? NONE : nobody().first();
    }

    int mute() {
        TreeSet<Integer> all = new TreeSet<>();
        for (Bird b : birds) all.addAll(b.facts);
        for (Bird b : birds) all.removeAll(somewhere(b));
        asked = all.size();
        return asked == 0 ? NONE : all.first();
    }

    /** All rows of PLACES of a size in their order, until one will do. */
    private boolean walkOf(Bird b, int facts, int[] walk, int k, int heard) {
        if (k == walk.length) return (facts & ~heard) == 0;
        for (int p = 0; p < 6; p++) {
            walk[k] = p;
            if (walkOf(b, facts, walk, k + 1, heard | setOf(telling(b, b.kind, p)))) return true;
        }
        return false;
    }

    int walk(int i, int facts, int r) {
        if (!in(i, birds.size()) || !in(facts, 1 << places.size()) || !in(r, 6)) return BAD;
        if ((facts & ~setOf(somewhere(birds.get(i)))) != 0) return NONE;
        for (int n = 0; n <= 6; n++) {
            int[] walk = new int[n];
            if (walkOf(birds.get(i), facts, walk, 0, 0)) {
                rows[r] = walk;
                return n;
            }
        }
        return NONE;
    }

    int crew(int facts) {
        if (!in(facts, 1 << places.size())) return BAD;
        for (int n = 0; n <= birds.size(); n++) {
            for (int set = 0; set < 1 << birds.size(); set++) {
                if (Integer.bitCount(set) == n && (facts & ~told(set)) == 0) {
                    asked = set;
                    return n;
                }
            }
        }
        return NONE;
    }

    /** Goose by goose all sets of places that it may be led past, with what was heard so far. */
    int least(int facts) {
        if (!in(facts, 1 << places.size())) return BAD;
        Map<Integer, Integer> best = new HashMap<>();
        best.put(0, 0);
        for (int i = 0; i < birds.size(); i++) {
            Map<Integer, Integer> next = new HashMap<>();
            for (int set = 0; set < 64; set++) {
                int heard = 0;
                for (int p = 0; p < 6; p++) heard |= (set >> p & 1) == 1 ? tells(i, p) : 0;
                for (Map.Entry<Integer, Integer> e : best.entrySet()) {
                    next.merge(e.getKey() | heard, e.getValue() + Integer.bitCount(set), Math::min);
                }
            }
            best = next;
        }
        int least = NONE;
        for (Map.Entry<Integer, Integer> e : best.entrySet()) {
            boolean all = (facts & ~e.getKey()) == 0;
            if (all && (least == NONE || e.getValue() < least)) least = e.getValue();
        }
        return least;
    }

    int risk() {
        int before = setOf(nobody());
        int all = 0;
        int most = 0;
        asked = NONE;
        for (int i = 0; i < birds.size(); i++) {
            List<Bird> real = birds;
            birds = copyOf(real);
            birds.get(i).facts.clear();
            int more = setOf(nobody()) & ~before;
            birds = real;
            all |= more;
            if (Integer.bitCount(more) > most) {
                most = Integer.bitCount(more);
                asked = i;
            }
        }
        return all;
    }

    int safe() {
        if (birds.isEmpty()) return STATE;
        return safeFrom(0, copyOf(birds), new HashMap<>());
    }

    /** Fact by fact all who may be given it, in rows of rooms that are left. */
    private int safeFrom(int fact, List<Bird> all, Map<String, Integer> seen) {
        if (fact == places.size()) return 0;
        StringBuilder key = new StringBuilder().append(fact);
        for (Bird b : all) key.append(' ').append(b.most - b.facts.size());
        if (seen.containsKey(key.toString())) return seen.get(key.toString());
        int best = NONE;
        for (int set = 0; set < 1 << all.size(); set++) {
            List<Bird> then = copyOf(all);
            boolean can = true;
            int hold = 0;
            for (int i = 0; i < all.size(); i++) {
                Bird b = then.get(i);
                if ((set >> i & 1) == 1) {
                    can &= !b.gone && !b.facts.contains(fact) && b.facts.size() < b.most;
                    b.facts.add(fact);
                }
                hold += b.facts.contains(fact) ? 1 : 0;
            }
            if (!can || hold < 2) continue;
            int rest = safeFrom(fact + 1, then, seen);
            if (rest != NONE && (best == NONE || rest + Integer.bitCount(set) < best)) best = rest + Integer.bitCount(set);
        }
        seen.put(key.toString(), best);
        return best;
    }

    private long gained(int i, int came, List<TreeSet<Integer>> all) {
        long gain = 0;
        int left = 0;
        for (int j = 0; j < all.size(); j++) {
            if ((came >> j & 1) == 1) continue;
            left++;
            if (j != i) {
                gain += gained(i, came | 1 << j, all);
                continue;
            }
            TreeSet<Integer> more = new TreeSet<>(all.get(i));
            for (int k = 0; k < all.size(); k++) if ((came >> k & 1) == 1) more.removeAll(all.get(k));
            long rest = 1;
            for (int k = 2; k < all.size() - Integer.bitCount(came); k++) rest *= k;
            gain += rest * more.size();
        }
        return left == 0 || (came >> i & 1) == 1 ? 0 : gain;
    }

    int share(int i) {
        if (!in(i, birds.size())) return BAD;
        List<TreeSet<Integer>> all = new ArrayList<>();
        for (Bird b : birds) all.add(somewhere(b));
        long orders = 1;
        for (int k = 2; k <= birds.size(); k++) orders *= k;
        return ratio(BigInteger.valueOf(gained(i, 0, all)), BigInteger.valueOf(orders));
    }

    private int badPairs(int r) {
        if (rows[r] == null) return find(1);
        if (rows[r].length % 2 == 1) return find(5);
        for (int k = 0; k < rows[r].length; k += 2) {
            if (!in(rows[r][k], 6) || !in(rows[r][k + 1], 1 << places.size())) return find(3);
        }
        return 0;
    }

    private boolean fits(Bird b, int kind, int[] row) {
        for (int k = 0; k < row.length; k += 2) {
            if (setOf(telling(b, kind, row[k])) != row[k + 1]) return false;
        }
        return true;
    }

    private int fitting(Bird b, int[] row) {
        int many = fits(b, b.kind, row) ? 1 : 0;
        if (b.facts.size() == b.most) return many;
        for (int f = 0; f < places.size(); f++) {
            if (b.facts.contains(f)) continue;
            Bird more = b.twin();
            more.facts.add(f);
            many += fitting(more, row);
        }
        return many;
    }

    int held(int i, int r) {
        if (!in(i, birds.size()) || !in(r, 6)) return BAD;
        if (birds.get(i).most > 4) return STATE;
        int no = badPairs(r);
        if (no != 0) return no;
        Bird b = birds.get(i).twin();
        b.facts.clear();
        return ratio(BigInteger.valueOf(fitting(b, rows[r])), BigInteger.ONE);
    }

    int kinds(int i, int r) {
        if (!in(i, birds.size()) || !in(r, 6)) return BAD;
        int no = badPairs(r);
        if (no != 0) return no;
        int set = 0;
        for (int kind = 0; kind < 6; kind++) {
            if (fits(birds.get(i), kind, rows[r])) set |= 1 << kind;
        }
        return set;
    }

    /** Goose by goose: it comes, or it doesn't; in parts of 12 for each one, be it gone or not. */
    private BigInteger ways(int i, int heldSet, int p, int facts) {
        if (i == birds.size()) {
            if (facts < 0) return BigInteger.valueOf(Integer.bitCount(heldSet));
            return (facts & ~heldSet) == 0 ? BigInteger.ONE : BigInteger.ZERO;
        }
        BigInteger with = ways(i + 1, heldSet | setOf(birds.get(i).facts), p, facts);
        BigInteger without = ways(i + 1, heldSet, p, facts);
        int q = birds.get(i).gone ? 0 : p;
        return with.multiply(BigInteger.valueOf(q)).add(without.multiply(BigInteger.valueOf(12 - q)));
    }

    int odds(int facts, int p) {
        if (!in(facts, 1 << places.size()) || !in(p, 13)) return BAD;
        return ratio(ways(0, 0, p, facts), BigInteger.valueOf(12).pow(birds.size()));
    }

    int mid(int p) {
        if (!in(p, 13)) return BAD;
        return ratio(ways(0, 0, p, -1), BigInteger.valueOf(12).pow(birds.size()));
    }

    int lots(int n, int seed) {
        if (n < 1 || n > 12 || seed < 1 || seed == Integer.MAX_VALUE) return BAD;
        if (birds.isEmpty()) return STATE;
        if (past.size() + n > 40) return FULL;
        BigInteger lot = BigInteger.valueOf(seed);
        for (int k = 0; k < n; k++) {
            lot = lot.multiply(BigInteger.valueOf(48271)).mod(BigInteger.valueOf(Integer.MAX_VALUE));
            int v = lot.intValueExact();
            int i = v % birds.size();
            if (birds.get(i).gone) continue;
            if ((v >> 3) % 4 == 0) fright(i);
            else give(i, (v >> 6) % places.size());
        }
        return nobody().size();
    }

    int count(int what) {
        if (!in(what, 9)) return BAD;
        int[] all = {birds.size(), places.size(), 0, past.size(), 0, 0, 0, 0, 0};
        for (Bird b : birds) {
            all[2] += b.gone ? 0 : 1;
            all[4] += is(b.kind, 1) ? 1 : 0;
            all[5] += is(b.kind, 3) ? 1 : 0;
        }
        for (int[] r : rows) all[6] += r == null ? 0 : 1;
        for (byte[] t : texts) all[7] += t == null ? 0 : 1;
        for (Object[] k : kept) all[8] += k == null ? 0 : 1;
        return all[what];
    }

    int findings(int f) {
        return f < 1 || f > 5 ? BAD : findings[f];
    }

    long digest() {
        List<Integer> all = new ArrayList<>();
        for (int what = 0; what < 9; what++) all.add(count(what));
        all.addAll(places);
        for (Bird b : birds) {
            for (int what = 0; what < 7; what++) all.add(about(b, what));
            all.addAll(b.facts);
        }
        for (Object[] k : kept) all.add(k == null ? -1 : ((List<?>) k[1]).size());
        for (int[] r : rows) {
            all.add(r == null ? -1 : r.length);
            if (r != null) for (int v : r) all.add(v);
        }
        for (byte[] t : texts) {
            all.add(t == null ? -1 : t.length);
            if (t != null) for (byte v : t) all.add((int) v);
        }
        long h = 17;
        for (int v : all) h = 31 * h + v;
        return h;
    }
}
