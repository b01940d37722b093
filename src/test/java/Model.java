import java.util.ArrayDeque;
import java.util.ArrayList;
import java.util.Arrays;
import java.util.BitSet;
import java.util.Deque;
import java.util.HashMap;
import java.util.HashSet;
import java.util.List;
import java.util.Map;
import java.util.Set;
import java.util.TreeSet;

/** The document once more, as naively as can be, with the Java library: what StateShop is compared with. */
final class Model {
    static final int NONE = -1, OUTSIDE = -102, STATE = -103, ROOM = -104;

    static final class M {
        int k, start;
        int[][] to;
        boolean[] acc;

        M(int k, int n) {
            this.k = k;
            to = new int[n][k];
            acc = new boolean[n];
            for (int s = 0; s < n; s++) {
                Arrays.fill(to[s], s);
            }
        }

        int n() {
            return to.length;
        }
    }

    final M[] slots = new M[6];
    final List<Integer> tape = new ArrayList<>();
    List<int[]> maps = new ArrayList<>();

    Model() {
        for (int i = 0; i < 6; i++) {
            slots[i] = new M(1, 1);
        }
    }

    private boolean slot(int s) {
        return s >= 0 && s <= 5;
    }

    private boolean state(int slot, int s) {
        return slot(slot) && s >= 0 && s < slots[slot].n();
    }

    int make(int slot, int k, int n) {
        if (!slot(slot) || k < 1 || k > 4 || n < 1 || n > 60) return OUTSIDE;
        slots[slot] = new M(k, n);
        return 1;
    }

    int edge(int slot, int state, int letter, int to) {
        if (!state(slot, state) || !state(slot, to) || letter < 0 || letter >= slots[slot].k) return OUTSIDE;
        int was = slots[slot].to[state][letter];
        slots[slot].to[state][letter] = to;
        return was;
    }

    int accept(int slot, int state, boolean on) {
        if (!state(slot, state)) return OUTSIDE;
        int was = slots[slot].acc[state] ? 1 : 0;
        slots[slot].acc[state] = on;
        return was;
    }

    int start(int slot, int state) {
        if (!state(slot, state)) return OUTSIDE;
        int was = slots[slot].start;
        slots[slot].start = state;
        return was;
    }

    int about(int slot, int what) {
        if (!slot(slot) || what < 0 || what > 3) return OUTSIDE;
        int accepting = 0;
        for (boolean a : slots[slot].acc) accepting += a ? 1 : 0;
        return new int[] {slots[slot].k, slots[slot].n(), slots[slot].start, accepting}[what];
    }

    int to(int slot, int state, int letter) {
        if (!state(slot, state) || letter < -1 || letter >= slots[slot].k) return OUTSIDE;
        return letter == -1 ? (slots[slot].acc[state] ? 1 : 0) : slots[slot].to[state][letter];
    }

    int order(int slot) {
        if (!slot(slot)) return OUTSIDE;
        slots[slot] = ordered(slots[slot]);
        return slots[slot].n();
    }

    static M ordered(M m) {
        List<Integer> met = new ArrayList<>(List.of(m.start));
        for (int i = 0; i < met.size(); i++) {
            for (int t : m.to[met.get(i)]) {
                if (!met.contains(t)) met.add(t);
            }
        }
        M o = new M(m.k, met.size());
        for (int i = 0; i < met.size(); i++) {
            o.acc[i] = m.acc[met.get(i)];
            for (int l = 0; l < m.k; l++) o.to[i][l] = met.indexOf(m.to[met.get(i)][l]);
        }
        return o;
    }

    private int rounds;

    /** The classes by rounds: of each state, a class. */
    private int[] classes(M m) {
        int[] cls = new int[m.n()];
        for (int s = 0; s < m.n(); s++) cls[s] = m.acc[s] ? 1 : 0;
        rounds = 0;
        while (true) {
            Map<List<Integer>, Integer> names = new HashMap<>();
            int[] next = new int[m.n()];
            for (int s = 0; s < m.n(); s++) {
                List<Integer> sign = new ArrayList<>(List.of(cls[s]));
                for (int t : m.to[s]) sign.add(cls[t]);
                names.putIfAbsent(sign, names.size());
                next[s] = names.get(sign);
            }
            rounds++;
            boolean more = count(next) > count(cls);
            cls = next;
            if (!more) return cls;
        }
    }

    private static int count(int[] cls) {
        Set<Integer> names = new HashSet<>();
        for (int c : cls) names.add(c);
        return names.size();
    }

    /** m must be without states that the START does not come to. */
    M smallest(M m) {
        int[] cls = classes(m);
        M q = new M(m.k, count(cls));
        for (int s = 0; s < m.n(); s++) {
            q.acc[cls[s]] = m.acc[s];
            for (int l = 0; l < m.k; l++) q.to[cls[s]][l] = cls[m.to[s][l]];
        }
        q.start = cls[m.start];
        return ordered(q);
    }

    static boolean alike(M a, M b) {
        return a.k == b.k && a.start == b.start && Arrays.deepEquals(a.to, b.to) && Arrays.equals(a.acc, b.acc);
    }

    static int splitters(M m) {
        List<TreeSet<Integer>> blocks = new ArrayList<>(List.of(new TreeSet<>()));
        TreeSet<Integer> other = new TreeSet<>();
        for (int s = 0; s < m.n(); s++) (m.acc[s] == m.acc[0] ? blocks.get(0) : other).add(s);
        List<List<Integer>> row = new ArrayList<>();
        if (!other.isEmpty()) {
            blocks.add(other);
            int fewer = blocks.get(0).size() < other.size() ? 0 : 1;
            for (int l = 0; l < m.k; l++) row.add(List.of(fewer, l));
        }
        int taken = 0;
        while (!row.isEmpty()) {
            List<Integer> pair = row.remove(0);
            taken++;
            Set<Integer> into = new HashSet<>();
            for (int s = 0; s < m.n(); s++) {
                if (blocks.get(pair.get(0)).contains(m.to[s][pair.get(1)])) into.add(s);
            }
            int there = blocks.size();
            for (int b = 0; b < there; b++) {
                TreeSet<Integer> in = new TreeSet<>(blocks.get(b)), out = new TreeSet<>(blocks.get(b));
                in.retainAll(into);
                out.removeAll(into);
                if (in.isEmpty() || out.isEmpty()) continue;
                boolean keepIn = in.contains(blocks.get(b).first());
                blocks.set(b, keepIn ? in : out);
                blocks.add(keepIn ? out : in);
                int added = blocks.size() - 1;
                for (int l = 0; l < m.k; l++) {
                    if (row.contains(List.of(b, l))) row.add(List.of(added, l));
                    else row.add(List.of(blocks.get(b).size() < blocks.get(added).size() ? b : added, l));
                }
            }
        }
        return taken;
    }

    /** TURNED; null: more than 500 sets. */
    static M turned(M m) {
        BitSet first = new BitSet();
        for (int s = 0; s < m.n(); s++) first.set(s, m.acc[s]);
        List<BitSet> met = new ArrayList<>(List.of(first));
        Map<BitSet, Integer> number = new HashMap<>(Map.of(first, 0));
        List<int[]> to = new ArrayList<>();
        for (int i = 0; i < met.size(); i++) {
            to.add(new int[m.k]);
            for (int l = 0; l < m.k; l++) {
                BitSet next = new BitSet();
                for (int s = 0; s < m.n(); s++) next.set(s, met.get(i).get(m.to[s][l]));
                if (!number.containsKey(next)) {
                    number.put(next, met.size());
                    met.add(next);
                    if (met.size() > 500) return null;
                }
                to.get(i)[l] = number.get(next);
            }
        }
        M t = new M(m.k, met.size());
        for (int i = 0; i < met.size(); i++) {
            t.to[i] = to.get(i);
            t.acc[i] = met.get(i).get(m.start);
        }
        return t;
    }

    int smaller(int slot, int way) {
        if (!slot(slot) || way < 0 || way > 2) return OUTSIDE;
        M m = ordered(slots[slot]);
        M small = smallest(m);
        int told = rounds;
        if (way == 1) told = splitters(m);
        if (way == 2) {
            M once = turned(m);
            if (once == null) return ROOM;
            told = once.n();
            M twice = turned(once);
            if (twice == null) return ROOM;
            if (!alike(twice, small)) throw new IllegalStateException("turned twice is not the smallest");
        }
        slots[slot] = small;
        return told;
    }

    /** 0 to 3: all pairs that are met. */
    private static M pairs(int how, M a, M b) {
        List<List<Integer>> met = new ArrayList<>(List.of(List.of(a.start, b.start)));
        Map<List<Integer>, Integer> number = new HashMap<>(Map.of(met.get(0), 0));
        List<int[]> to = new ArrayList<>();
        for (int i = 0; i < met.size(); i++) {
            to.add(new int[a.k]);
            for (int l = 0; l < a.k; l++) {
                List<Integer> next = List.of(a.to[met.get(i).get(0)][l], b.to[met.get(i).get(1)][l]);
                if (!number.containsKey(next)) {
                    number.put(next, met.size());
                    met.add(next);
                }
                to.get(i)[l] = number.get(next);
            }
        }
        M m = new M(a.k, met.size());
        for (int i = 0; i < met.size(); i++) {
            boolean x = a.acc[met.get(i).get(0)], y = b.acc[met.get(i).get(1)];
            m.acc[i] = how == 0 ? x & y : how == 1 ? x | y : how == 2 ? x & !y : x ^ y;
            m.to[i] = to.get(i);
        }
        return m;
    }

    /** 4 and 5: sets; a's state stands before b's, or "first" for the first set of 5. */
    private static M chained(M a, M b, boolean again) {
        List<Object> firstKey = again ? List.of("first", Set.of())
            : List.of(a.start, a.acc[a.start] ? Set.of(b.start) : Set.of());
        List<List<Object>> met = new ArrayList<>();
        met.add(firstKey);
        Map<List<Object>, Integer> number = new HashMap<>();
        number.put(firstKey, 0);
        List<int[]> to = new ArrayList<>();
        for (int i = 0; i < met.size(); i++) {
            to.add(new int[a.k]);
            for (int l = 0; l < a.k; l++) {
                List<Object> next = again ? aheadAgain(met.get(i), a, l) : aheadThen(met.get(i), a, b, l);
                if (!number.containsKey(next)) {
                    number.put(next, met.size());
                    met.add(next);
                    if (met.size() > 500) return null;
                }
                to.get(i)[l] = number.get(next);
            }
        }
        M m = new M(a.k, met.size());
        for (int i = 0; i < met.size(); i++) {
            for (Object s : (Set<?>) met.get(i).get(1)) m.acc[i] |= b.acc[(Integer) s];
            m.to[i] = to.get(i);
        }
        if (again) m.acc[0] = true;
        return m;
    }

    private static List<Object> aheadThen(List<Object> from, M a, M b, int l) {
        int p = a.to[(Integer) from.get(0)][l];
        Set<Integer> set = new HashSet<>();
        for (Object s : (Set<?>) from.get(1)) set.add(b.to[(Integer) s][l]);
        if (a.acc[p]) set.add(b.start);
        return List.of(p, set);
    }

    private static List<Object> aheadAgain(List<Object> from, M a, int l) {
        Set<Integer> set = new HashSet<>();
        if (from.get(0).equals("first")) set.add(a.to[a.start][l]);
        for (Object s : (Set<?>) from.get(1)) set.add(a.to[(Integer) s][l]);
        boolean came = false;
        for (int s : set) came |= a.acc[s];
        if (came) set.add(a.start);
        return List.of("other", set);
    }

    /** The smallest joined machine; null: ROOM. */
    M joined(int how, M a, M b) {
        M m;
        if (how <= 3) m = pairs(how, a, b);
        else if (how == 4) m = chained(a, b, false);
        else if (how == 5) m = chained(a, a, true);
        else if (how == 6) m = turned(a);
        else {
            m = ordered(a);
            for (int s = 0; s < m.n(); s++) m.acc[s] = !m.acc[s];
        }
        if (m == null) return null;
        m = smallest(m);
        return m.n() > 60 ? null : m;
    }

    int join(int slot, int how, int a, int b) {
        if (!slot(slot) || how < 0 || how > 7 || !slot(a) || how < 5 && !slot(b)) return OUTSIDE;
        if (how < 5 && slots[a].k != slots[b].k) return STATE;
        M m = joined(how, slots[a], how < 5 ? slots[b] : null);
        if (m == null) return ROOM;
        slots[slot] = m;
        return m.n();
    }

    int feed(int... numbers) {
        if (tape.size() + 20 > 500) return ROOM;
        for (int x : numbers) {
            for (int i = 3; i >= 0; i--) tape.add((int) (((x & 0xFFFFFFFFL) >> 8 * i) % 256));
        }
        return tape.size();
    }

    int end(int n) {
        if (n < 0 || n > tape.size()) return OUTSIDE;
        while (tape.size() > n) tape.remove(n);
        return 1;
    }

    /** The place of the first byte that cannot stand; -1: there is none. */
    static int faultPlace(String s, int k) {
        Deque<Character> open = new ArrayDeque<>();
        boolean needsAtom = false, behindAtom = false;
        for (int i = 0; i < s.length(); i++) {
            char c = s.charAt(i);
            boolean atomEnds = false;
            if (c == '.' || c == '0' || c >= 'a' && c < 'a' + k) {
                atomEnds = true;
            } else if (c == '(' || c == '!') {
                if (open.size() == 30) return i;
                open.push(c);
                needsAtom = c == '!';
                behindAtom = false;
            } else if (c == ')') {
                if (needsAtom || open.isEmpty()) return i;
                open.pop();
                atomEnds = true;
            } else if (c == '|' || c == '&') {
                if (needsAtom) return i;
                behindAtom = false;
            } else if (c == '*' || c == '+' || c == '?') {
                if (!behindAtom) return i;
            } else {
                return i;
            }
            if (atomEnds) {
                while (!open.isEmpty() && open.peek() == '!') open.pop();
                needsAtom = false;
                behindAtom = true;
            }
        }
        return open.isEmpty() ? -1 : s.length();
    }

    private static List<String> split(String s, char by) {
        List<String> parts = new ArrayList<>();
        int depth = 0, from = 0;
        for (int i = 0; i < s.length(); i++) {
            char c = s.charAt(i);
            if (c == '(') depth++;
            if (c == ')') depth--;
            if (c == by && depth == 0) {
                parts.add(s.substring(from, i));
                from = i + 1;
            }
        }
        parts.add(s.substring(from));
        return parts;
    }

    private static int atomEnd(String s, int from) {
        if (s.charAt(from) == '!') return atomEnd(s, from + 1);
        if (s.charAt(from) != '(') return from + 1;
        int depth = 0;
        for (int i = from; ; i++) {
            if (s.charAt(i) == '(') depth++;
            if (s.charAt(i) == ')') depth--;
            if (depth == 0) return i + 1;
        }
    }

    static M emptyWord(int k) {
        M m = new M(k, 2);
        m.acc[0] = true;
        Arrays.fill(m.to[0], 1);
        return m;
    }

    /** null: ROOM of a part. The text has no faults. */
    private M value(String s, int k) {
        for (char by : new char[] {'|', '&'}) {
            List<String> parts = split(s, by);
            if (parts.size() > 1) {
                M m = value(parts.get(0), k);
                for (int i = 1; i < parts.size(); i++) {
                    M next = value(parts.get(i), k);
                    m = m == null || next == null ? null : joined(by == '|' ? 1 : 0, m, next);
                }
                return m;
            }
        }
        M m = emptyWord(k);
        for (int at = 0; at < s.length() && m != null; ) {
            int end = atomEnd(s, at);
            M part = atom(s.substring(at, end), k);
            for (; end < s.length() && "*+?".indexOf(s.charAt(end)) >= 0 && part != null; end++) {
                M star = joined(5, part, null);
                if (s.charAt(end) == '*') part = star;
                else if (s.charAt(end) == '?') part = joined(1, part, emptyWord(k));
                else part = star == null ? null : joined(4, part, star);
            }
            m = part == null ? null : joined(4, m, part);
            at = end;
        }
        return m;
    }

    private M atom(String s, int k) {
        if (s.charAt(0) == '(') return value(s.substring(1, s.length() - 1), k);
        if (s.charAt(0) == '!') {
            M m = atom(s.substring(1), k);
            return m == null ? null : joined(7, m, null);
        }
        M m = new M(k, 3);
        m.acc[2] = true;
        for (int l = 0; l < k; l++) {
            m.to[0][l] = s.charAt(0) == '.' || s.charAt(0) == 'a' + l ? 2 : 1;
            m.to[2][l] = 1;
        }
        return smallest(ordered(m));
    }

    int read(int slot, int k) {
        if (!slot(slot) || k < 1 || k > 4) return OUTSIDE;
        String s = text();
        tape.clear();
        int fault = faultPlace(s, k);
        if (fault >= 0) return -1000 - fault;
        M m = value(s, k);
        if (m == null) return ROOM;
        slots[slot] = smallest(m);
        return m.n();
    }

    private String text() {
        StringBuilder s = new StringBuilder();
        for (int b : tape) s.append((char) b);
        return s.toString();
    }

    private void put(String word) {
        tape.clear();
        for (char c : word.toCharArray()) tape.add((int) c);
    }

    private boolean isWord(M m) {
        for (int b : tape) {
            if (b < 'a' || b >= 'a' + m.k) return false;
        }
        return true;
    }

    int takes(int slot) {
        if (!slot(slot) || !isWord(slots[slot])) return OUTSIDE;
        int s = slots[slot].start;
        for (int b : tape) s = slots[slot].to[s][b - 'a'];
        return slots[slot].acc[s] ? 1 : 0;
    }

    /** The least word that is taken from just one of p, q; null: none. */
    private static String least(M a, int p, M b, int q) {
        Set<List<Integer>> seen = new HashSet<>();
        Deque<Object[]> row = new ArrayDeque<>();
        row.add(new Object[] {p, q, ""});
        seen.add(List.of(p, q));
        while (!row.isEmpty()) {
            Object[] at = row.poll();
            int x = (Integer) at[0], y = (Integer) at[1];
            if (a.acc[x] != b.acc[y]) return (String) at[2];
            for (int l = 0; l < a.k; l++) {
                if (seen.add(List.of(a.to[x][l], b.to[y][l]))) {
                    row.add(new Object[] {a.to[x][l], b.to[y][l], at[2] + "" + (char) ('a' + l)});
                }
            }
        }
        return null;
    }

    int same(int a, int b) {
        if (!slot(a) || !slot(b)) return OUTSIDE;
        if (slots[a].k != slots[b].k) return STATE;
        String word = least(slots[a], slots[a].start, slots[b], slots[b].start);
        if (word == null) return 1;
        put(word);
        return 0;
    }

    int apart(int slot, int p, int q) {
        if (!state(slot, p) || !state(slot, q)) return OUTSIDE;
        String word = least(slots[slot], p, slots[slot], q);
        if (word == null) return NONE;
        put(word);
        return word.length();
    }

    /** How many words of a length are taken from a state on: by how often each state is come to. */
    private static long count(M m, int from, int length) {
        long[] there = new long[m.n()];
        there[from] = 1;
        for (int i = 0; i < length; i++) {
            long[] next = new long[m.n()];
            for (int s = 0; s < m.n(); s++) {
                for (int t : m.to[s]) next[t] += there[s];
            }
            there = next;
        }
        long sum = 0;
        for (int s = 0; s < m.n(); s++) sum += m.acc[s] ? there[s] : 0;
        return sum;
    }

    long words(int slot, int length) {
        if (!slot(slot) || length < 0 || length > 30) return NONE;
        return count(slots[slot], slots[slot].start, length);
    }

    int word(int slot, long i) {
        if (!slot(slot) || i < 0) return OUTSIDE;
        M m = slots[slot];
        for (int length = 0; length <= 30; length++) {
            long here = count(m, m.start, length);
            if (i >= here) {
                i -= here;
                continue;
            }
            StringBuilder word = new StringBuilder();
            int s = m.start;
            while (word.length() < length) {
                for (int l = 0; l < m.k; l++) {
                    long c = count(m, m.to[s][l], length - word.length() - 1);
                    if (i < c) {
                        word.append((char) ('a' + l));
                        s = m.to[s][l];
                        break;
                    }
                    i -= c;
                }
            }
            put(word.toString());
            return length;
        }
        return NONE;
    }

    long number(int slot) {
        if (!slot(slot) || tape.size() > 30 || takes(slot) != 1) return NONE;
        M m = slots[slot];
        long before = 0;
        int s = m.start;
        for (int i = 0; i < tape.size(); i++) {
            before += count(m, m.start, i);
            for (int l = 0; l < tape.get(i) - 'a'; l++) before += count(m, m.to[s][l], tape.size() - i - 1);
            s = m.to[s][tape.get(i) - 'a'];
        }
        return before;
    }

    int octet(int k) {
        return k < 0 || k >= tape.size() ? NONE : tape.get(k);
    }

    int bytes() {
        return tape.size();
    }

    int mappings(int slot) {
        if (!slot(slot)) return OUTSIDE;
        M m = smallest(ordered(slots[slot]));
        maps = new ArrayList<>();
        int[] same = new int[m.n()];
        for (int s = 0; s < m.n(); s++) same[s] = s;
        maps.add(same);
        Set<String> seen = new HashSet<>(Set.of(Arrays.toString(same)));
        for (int i = 0; i < maps.size(); i++) {
            for (int l = 0; l < m.k; l++) {
                int[] next = new int[m.n()];
                for (int s = 0; s < m.n(); s++) next[s] = m.to[maps.get(i)[s]][l];
                if (seen.add(Arrays.toString(next))) maps.add(next);
                if (maps.size() > 400) {
                    maps = new ArrayList<>();
                    return ROOM;
                }
            }
        }
        return maps.size();
    }

    int maps(int i, int state) {
        if (i < 0 || i >= maps.size() || state < 0 || state >= maps.get(i).length) return OUTSIDE;
        return maps.get(i)[state];
    }

    private static int[] after(int[] f, int[] g) {
        int[] h = new int[f.length];
        for (int s = 0; s < f.length; s++) h[s] = g[f[s]];
        return h;
    }

    int mapping(int what) {
        if (what < 0 || what > 4) return OUTSIDE;
        if (maps.isEmpty()) return NONE;
        int found = 0;
        for (int[] f : maps) {
            if (what == 0 && Arrays.equals(after(f, f), f)) found++;
            if (what == 1) {
                int[] p = f;
                for (int i = 0; i < 60; i++) p = after(p, f);
                if (!Arrays.equals(after(p, f), p)) return 0;
            }
            if (what == 2) {
                for (int[] g : maps) {
                    if (!Arrays.equals(after(f, g), after(g, f))) return 0;
                }
            }
            long images = Arrays.stream(f).distinct().count();
            if (what == 3 && images == 1 || what == 4 && images == f.length) found++;
        }
        return what == 1 || what == 2 ? 1 : found;
    }
}
