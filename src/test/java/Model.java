import java.util.ArrayDeque;
import java.util.ArrayList;
import java.util.Arrays;
import java.util.Collections;
import java.util.HashMap;
import java.util.List;
import java.util.Map;
import java.util.NoSuchElementException;

/** The document's promises, each by trying all there is: slow, and in no way like the class itself. */
final class Model {
    static final int NONE = -1;

    private static final class State {
        List<Integer> parts = new ArrayList<>();
        List<Integer> row = new ArrayList<>();

        State copy() {
            State s = new State();
            s.parts.addAll(parts);
            s.row.addAll(row);
            return s;
        }
    }

    private static final class Token {
        String word;
        int place;
        boolean isNumber;
        int number;
    }

    private State now = new State();
    private List<Integer> tape = new ArrayList<>();
    private final ArrayDeque<List<Integer>> past = new ArrayDeque<>();
    private final State[] images = new State[2];
    private int faultKind = 0;
    private int faultPlace = 0;
    private int faultRow = NONE;
    private State tableOf = null;
    private int[] table = null;
    private static final Map<String, List<List<Integer>>> FREE_OF_GROUP = new HashMap<>();
    private static final Map<String, Integer> ENOUGH_OF_GROUP = new HashMap<>();

    // ---- the group

    int order() {
        if (now.parts.isEmpty()) {
            return 0;
        }
        int n = 1;
        for (int p : now.parts) {
            n *= p;
        }
        return n;
    }

    private int[] digits(int g) {
        int[] d = new int[now.parts.size()];
        for (int i = d.length - 1; i >= 0; i--) {
            d[i] = g % now.parts.get(i);
            g /= now.parts.get(i);
        }
        return d;
    }

    private int number(int[] d) {
        int g = 0;
        for (int i = 0; i < d.length; i++) {
            g = g * now.parts.get(i) + d[i];
        }
        return g;
    }

    private int times(int g, int u) {
        int[] d = digits(g);
        for (int i = 0; i < d.length; i++) {
            d[i] = Math.floorMod(d[i] * u, now.parts.get(i));
        }
        return number(d);
    }

    private int plus(int a, int b) {
        int[] d = digits(a);
        int[] e = digits(b);
        for (int i = 0; i < d.length; i++) {
            d[i] = (d[i] + e[i]) % now.parts.get(i);
        }
        return number(d);
    }

    int exponent() {
        if (order() == 0) {
            return 0;
        }
        for (int u = 1;; u++) {
            boolean all = true;
            for (int g = 0; g < order(); g++) {
                all &= times(g, u) == 0;
            }
            if (all) {
                return u;
            }
        }
    }

    private static int gcd(int a, int b) {
        return b == 0 ? a : gcd(b, a % b);
    }

    private boolean has(int g) {
        return g >= 0 && g < order();
    }

    private int n() {
        return now.row.size();
    }

    private int sumOf(List<Integer> row, int set) {
        int s = 0;
        for (int i = 0; i < row.size(); i++) {
            if ((set >> i & 1) == 1) {
                s = plus(s, row.get(i));
            }
        }
        return s;
    }

    /** The sum of each set of the row's places, made anew when the row is another one. */
    private int[] table() {
        State s = tableOf;
        if (s == null || !s.parts.equals(now.parts) || !s.row.equals(now.row)) {
            tableOf = now.copy();
            table = new int[1 << n()];
            for (int set = 0; set < table.length; set++) {
                table[set] = sumOf(now.row, set);
            }
        }
        return table;
    }

    private boolean isFree(List<Integer> row) {
        for (int set = 1; set < 1 << row.size(); set++) {
            if (sumOf(row, set) == 0) {
                return false;
            }
        }
        return true;
    }

    // ---- the tape

    int feed(int a, int b, int c, int d, int e) {
        if (tape.size() > 320) {
            return NONE;
        }
        for (int v : new int[] {a, b, c, d, e}) {
            tape.add(v >> 24 & 255);
            tape.add(v >> 16 & 255);
            tape.add(v >> 8 & 255);
            tape.add(v & 255);
        }
        return tape.size();
    }

    boolean end(int k) {
        if (k < 0 || k > tape.size()) {
            return false;
        }
        tape = new ArrayList<>(tape.subList(0, k));
        return true;
    }

    private List<Token> tokens(String s) {
        List<Token> all = new ArrayList<>();
        int i = 0;
        while (i < s.length() && i < 300) {
            if (s.charAt(i) == ' ' || s.charAt(i) == '\n') {
                i++;
                continue;
            }
            int j = i;
            while (j < s.length() && s.substring(j, j + 1).matches("[a-z0-9]")) {
                j++;
            }
            Token t = new Token();
            t.place = i;
            t.word = s.substring(i, Math.max(j, i + 1));
            t.isNumber = t.word.matches("[0-9]{1,2}");
            t.number = t.isNumber ? Integer.parseInt(t.word) : 0;
            all.add(t);
            i = Math.max(j, i + 1);
        }
        Token last = new Token();
        last.word = s.length() > 300 ? "cut" : "end";
        last.place = Math.min(300, s.length());
        all.add(last);
        return all;
    }

    private void fault(int kind, int place, int row) {
        faultKind = kind;
        faultPlace = place;
        faultRow = row;
    }

    /** The rows read, each from token i on; how many, or NONE with a fault. */
    private int parse(List<Token> t, State to) {
        int i = 0;
        int rows = 0;
        while (!t.get(i).word.equals("end")) {
            int begin = i;
            int times = 1;
            boolean told = false;
            List<Integer> told1 = new ArrayList<>();
            if (!t.get(i).word.equals(rows == 0 ? "group" : "put")) {
                fault(1, t.get(i).place, rows);
                return NONE;
            }
            i++;
            int most = rows == 0 ? 3 : to.parts.size();
            int product = 1;
            while (t.get(i).isNumber && told1.size() < most) {
                int v = t.get(i).number;
                product *= v;
                boolean bad = rows == 0 ? v < 2 || v > 24 || product > 24 : v >= to.parts.get(told1.size());
                if (bad) {
                    fault(2, t.get(i).place, rows);
                    return NONE;
                }
                told1.add(v);
                i++;
            }
            if (told1.isEmpty() || rows > 0 && told1.size() < most) {
                fault(1, t.get(i).place, rows);
                return NONE;
            }
            if (rows > 0 && t.get(i).word.equals("times")) {
                i++;
                told = true;
                if (!t.get(i).isNumber) {
                    fault(1, t.get(i).place, rows);
                    return NONE;
                }
                times = t.get(i).number;
                if (times < 1 || times > 12 || to.row.size() + times > 12) {
                    fault(2, t.get(i).place, rows);
                    return NONE;
                }
                i++;
            }
            if (!t.get(i).word.equals(";")) {
                fault(1, t.get(i).place, rows);
                return NONE;
            }
            i++;
            if (rows > 0 && !told && to.row.size() == 12) {
                fault(3, t.get(begin).place, rows);
                return NONE;
            }
            if (rows == 0) {
                to.parts.addAll(told1);
            } else {
                int g = 0;
                for (int p = 0; p < told1.size(); p++) {
                    g = g * to.parts.get(p) + told1.get(p);
                }
                to.row.addAll(Collections.nCopies(times, g));
            }
            rows++;
        }
        return rows;
    }

    int text() {
        StringBuilder s = new StringBuilder();
        for (int b : tape) {
            s.append((char) b);
        }
        tape.clear();
        State to = new State();
        int rows = parse(tokens(s.toString()), to);
        if (rows == NONE) {
            return -1 - faultPlace;
        }
        fault(0, 0, NONE);
        now = to;
        past.clear();
        return rows;
    }

    int fault(int what) {
        return what == 0 ? faultKind : what == 1 ? faultRow : NONE;
    }

    // ---- what stands

    int sumOfAll() {
        return n() == 0 ? NONE : sumOf(now.row, (1 << n()) - 1);
    }

    int now(int what) {
        int[] all = {now.parts.size(), order(), exponent(), n(), sumOfAll(), past.size(), tape.size()};
        return what >= 0 && what < all.length ? all[what] : NONE;
    }

    int part(int i) {
        return i >= 0 && i < now.parts.size() ? now.parts.get(i) : NONE;
    }

    int at(int place) {
        return place >= 0 && place < n() ? now.row.get(place) : NONE;
    }

    int add(int a, int b) {
        return has(a) && has(b) ? plus(a, b) : NONE;
    }

    // ---- sub-rows

    int sum(int set) {
        if (set < 1 || set >= 1 << n()) {
            throw new NoSuchElementException();
        }
        return sumOf(now.row, set);
    }

    int sums() {
        int bits = 0;
        for (int set = 1; set < 1 << n(); set++) {
            bits |= 1 << table()[set];
        }
        return bits;
    }

    int found(int g, int what) {
        int best = NONE;
        for (int set = 1; has(g) && set < 1 << n(); set++) {
            if (table()[set] == g && (best == NONE || Integer.bitCount(set) < Integer.bitCount(best))) {
                best = set;
            }
        }
        return best == NONE ? NONE : what == 0 ? Integer.bitCount(best) : what == 1 ? best : NONE;
    }

    int ways(int g, int k) {
        if (!has(g) || k < 0 || k > n()) {
            return NONE;
        }
        int count = 0;
        for (int set = 1; set < 1 << n(); set++) {
            if (table()[set] == g && (k == 0 || Integer.bitCount(set) == k)) {
                count++;
            }
        }
        return count;
    }

    int exactly(int g, int k) {
        for (int set = 1; has(g) && set < 1 << n(); set++) {
            if (table()[set] == g && Integer.bitCount(set) == k) {
                return set;
            }
        }
        return NONE;
    }

    int run(int g, int what) {
        for (int begin = 0; has(g) && begin < n(); begin++) {
            for (int length = 1; begin + length <= n(); length++) {
                if (sumOf(now.row, ((1 << length) - 1) << begin) == g) {
                    return what == 0 ? begin : what == 1 ? length : NONE;
                }
            }
        }
        return NONE;
    }

    int free(int what) {
        if (what == 0) {
            return isFree(now.row) ? 1 : 0;
        }
        if (what == 1) {
            return n() > 0 && isAtom((1 << n()) - 1) ? 1 : 0;
        }
        if (what != 2) {
            return NONE;
        }
        int bits = 0;
        for (int g = 0; g < order(); g++) {
            List<Integer> more = new ArrayList<>(now.row);
            more.add(g);
            bits |= isFree(more) ? 1 << g : 0;
        }
        return bits;
    }

    // ---- parted

    private boolean isAtom(int set) {
        if (table()[set] != 0) {
            return false;
        }
        for (int sub = (set - 1) & set; sub > 0; sub = (sub - 1) & set) {
            if (table()[sub] == 0) {
                return false;
            }
        }
        return true;
    }

    /** All ways to part a set into atoms would be too many: the fewest or the most, kept by set. */
    private int parted(int left, boolean fewest, List<Integer> atoms, Map<Integer, Integer> kept) {
        if (left == 0) {
            return 0;
        }
        Integer old = kept.get(left);
        if (old != null) {
            return old;
        }
        int best = NONE;
        for (int a : atoms) {
            if ((a & Integer.lowestOneBit(left)) != 0 && (a & ~left) == 0) {
                int rest = parted(left & ~a, fewest, atoms, kept);
                if (rest != NONE && (best == NONE || (fewest ? rest + 1 < best : rest + 1 > best))) {
                    best = rest + 1;
                }
            }
        }
        kept.put(left, best);
        return best;
    }

    private List<Integer> allAtoms() {
        List<Integer> atoms = new ArrayList<>();
        for (int set = 1; set < 1 << n(); set++) {
            if (isAtom(set)) {
                atoms.add(set);
            }
        }
        return atoms;
    }

    int atoms(int what) {
        if (sumOfAll() != 0 || what != 0 && what != 1) {
            return NONE;
        }
        return parted((1 << n()) - 1, what == 0, allAtoms(), new HashMap<>());
    }

    int atom(int i) {
        if (sumOfAll() != 0 || i < 0) {
            return NONE;
        }
        List<Integer> atoms = allAtoms();
        Map<Integer, Integer> kept = new HashMap<>();
        int left = (1 << n()) - 1;
        int most = parted(left, false, atoms, kept);
        for (int j = 0; left != 0; j++) {
            for (int a : atoms) {
                if ((a & Integer.lowestOneBit(left)) != 0 && (a & ~left) == 0
                        && parted(left & ~a, false, atoms, kept) == most - j - 1) {
                    if (j == i) {
                        return a;
                    }
                    left &= ~a;
                    break;
                }
            }
        }
        return NONE;
    }

    // ---- signed

    private int signsMake(int code) {
        int s = 0;
        for (int i = n() - 1; i >= 0; i--) {
            int d = code % 3;
            code /= 3;
            s = d == 0 ? s : plus(s, d == 1 ? now.row.get(i) : times(now.row.get(i), -1));
        }
        return s;
    }

    int signed(int g) {
        if (!has(g)) {
            return NONE;
        }
        int count = 0;
        for (int code = 1; code < Math.pow(3, n()); code++) {
            count += signsMake(code) == g ? 1 : 0;
        }
        return count;
    }

    int sign(int g, int place) {
        if (!has(g) || place < 0 || place >= n()) {
            return NONE;
        }
        for (int code = 1; code < Math.pow(3, n()); code++) {
            if (signsMake(code) == g) {
                return code / (int) Math.pow(3, n() - 1 - place) % 3;
            }
        }
        return NONE;
    }

    int like(int place) {
        if (place < 0 || place >= n()) {
            return NONE;
        }
        List<Integer> best = null;
        for (int u = 1; u <= exponent(); u++) {
            if (gcd(u, exponent()) == 1) {
                List<Integer> other = new ArrayList<>();
                for (int g : now.row) {
                    other.add(times(g, u));
                }
                Collections.sort(other);
                if (best == null || compare(other, best) < 0) {
                    best = other;
                }
            }
        }
        return best.get(place);
    }

    private static int compare(List<Integer> a, List<Integer> b) {
        for (int i = 0; i < a.size() && i < b.size(); i++) {
            if (!a.get(i).equals(b.get(i))) {
                return a.get(i) - b.get(i);
            }
        }
        return a.size() - b.size();
    }

    // ---- the group's free multisets

    private void freeFrom(List<Integer> row, List<List<Integer>> all) {
        all.add(new ArrayList<>(row));
        for (int g = row.isEmpty() ? 0 : row.get(row.size() - 1); g < order(); g++) {
            row.add(g);
            // Only what the new place brings can be new: all other sub-rows were looked at.
            boolean free = true;
            for (int set = 1 << row.size() - 1; free && set < 1 << row.size(); set++) {
                free = sumOf(row, set) != 0;
            }
            if (free) {
                freeFrom(row, all);
            }
            row.remove(row.size() - 1);
        }
    }

    private List<List<Integer>> freeOnes() {
        String key = now.parts.toString();
        if (!FREE_OF_GROUP.containsKey(key)) {
            List<List<Integer>> all = new ArrayList<>();
            freeFrom(new ArrayList<>(), all);
            FREE_OF_GROUP.put(key, all);
        }
        return FREE_OF_GROUP.get(key);
    }

    int frees(int k) {
        if (k < 0 || k > 12 || order() == 0 || order() > 12) {
            return NONE;
        }
        int count = 0;
        for (List<Integer> row : freeOnes()) {
            count += row.size() == k ? 1 : 0;
        }
        return count;
    }

    private List<Integer> firstLongest() {
        List<Integer> best = new ArrayList<>();
        for (List<Integer> row : freeOnes()) {
            if (row.size() > best.size() || row.size() == best.size() && compare(row, best) < 0) {
                best = row;
            }
        }
        return best;
    }

    int longest() {
        return order() == 0 || order() > 12 ? NONE : firstLongest().size();
    }

    int longestAt(int place) {
        if (order() == 0 || order() > 12 || place < 0 || place >= firstLongest().size()) {
            return NONE;
        }
        return firstLongest().get(place);
    }

    /** Is there a multiset of so many elements of which no exponent() make nought? */
    private boolean canFail(List<Integer> row, int length) {
        int k = exponent();
        for (int set = 0; set < 1 << row.size(); set++) {
            boolean withLast = row.size() > 0 && (set >> row.size() - 1 & 1) == 1;
            if (withLast && Integer.bitCount(set) == k && sumOf(row, set) == 0) {
                return false;
            }
        }
        if (row.size() == length) {
            return true;
        }
        for (int g = row.isEmpty() ? 0 : row.get(row.size() - 1); g < order(); g++) {
            row.add(g);
            boolean fails = canFail(row, length);
            row.remove(row.size() - 1);
            if (fails) {
                return true;
            }
        }
        return false;
    }

    int enough() {
        if (order() == 0 || order() > 6) {
            return NONE;
        }
        String key = now.parts.toString();
        if (!ENOUGH_OF_GROUP.containsKey(key)) {
            int length = 0;
            while (canFail(new ArrayList<>(), length)) {
                length++;
            }
            ENOUGH_OF_GROUP.put(key, length);
        }
        return ENOUGH_OF_GROUP.get(key);
    }

    // ---- acts

    private void keep(List<Integer> row) {
        past.addLast(new ArrayList<>(row));
        if (past.size() > 8) {
            past.removeFirst();
        }
    }

    int come(int g) {
        if (!has(g) || n() == 12) {
            return NONE;
        }
        keep(now.row);
        now.row.add(g);
        return n();
    }

    int go(int place) {
        if (place < 0 || place >= n()) {
            return NONE;
        }
        keep(now.row);
        now.row.remove(place);
        return n();
    }

    private boolean multiply(int u) {
        if (n() == 0 || u < 1 || u > 24 || gcd(u, exponent()) != 1) {
            return false;
        }
        now.row.replaceAll(g -> times(g, u));
        return true;
    }

    int times(int u) {
        List<Integer> old = new ArrayList<>(now.row);
        if (!multiply(u)) {
            return NONE;
        }
        keep(old);
        return sumOfAll();
    }

    int sort() {
        List<Integer> sorted = new ArrayList<>(now.row);
        Collections.sort(sorted);
        int count = 0;
        for (int i = 0; i < n(); i++) {
            count += sorted.get(i).equals(now.row.get(i)) ? 0 : 1;
        }
        if (count > 0) {
            keep(now.row);
            now.row = sorted;
        }
        return count;
    }

    private int seed;

    private int draw(int k) {
        seed = seed * 1103515245 + 12345;
        return (seed >>> 8) % k;
    }

    int drawn(int k, int s) {
        if (k < 1 || k > 60) {
            return NONE;
        }
        List<Integer> old = new ArrayList<>(now.row);
        seed = s;
        int done = 0;
        for (int i = 0; i < k; i++) {
            int deed = draw(4);
            if (order() == 0) {
                continue;
            }
            if (deed == 0) {
                if (n() > 0) {
                    now.row.remove(draw(n()));
                    done++;
                }
            } else if (deed == 1) {
                done += multiply(1 + draw(exponent())) ? 1 : 0;
            } else {
                int g = draw(order());
                if (n() < 12) {
                    now.row.add(g);
                    done++;
                }
            }
        }
        if (done > 0) {
            keep(old);
        }
        return done;
    }

    int undo() {
        if (past.isEmpty()) {
            return NONE;
        }
        now.row = past.removeLast();
        return past.size();
    }

    boolean image(int k) {
        if (k != 0 && k != 1) {
            return false;
        }
        images[k] = now.copy();
        return true;
    }

    boolean restore(int k) {
        if (k != 0 && k != 1 || images[k] == null) {
            return false;
        }
        now = images[k].copy();
        past.clear();
        return true;
    }

    @Override
    public String toString() {
        return Arrays.toString(now.parts.toArray()) + " " + now.row;
    }
}
