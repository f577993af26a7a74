import java.util.ArrayDeque;
import java.util.ArrayList;
import java.util.Deque;
import java.util.HashSet;
import java.util.List;
import java.util.NoSuchElementException;
import java.util.Random;
import java.util.Set;
import java.util.TreeMap;

/** Random runs of calls (of fixed seeds) on the class and on a plain model that is written another way. */
public final class ModelTest {
    static final long THROWS = Long.MIN_VALUE;

    // ---------------------------------------------------------------- the model

    static final class State {
        int[] bench = {3, 2, 1, 0, 3, 4, 0};
        List<int[]> cats = new ArrayList<>();
        List<int[]> accused = new ArrayList<>();
        List<int[]> log = new ArrayList<>();

        State copy() {
            State s = new State();
            s.bench = bench.clone();
            for (int[] c : cats) s.cats.add(c.clone());
            for (int[] a : accused) s.accused.add(a.clone());
            s.log.addAll(log);
            return s;
        }
    }

    static final class Model {
        String tape = "";
        List<String> laws = new ArrayList<>();
        int holds = -1;
        State now = null;
        State image = null;
        Deque<State> acts = new ArrayDeque<>();
        List<int[]> seen = new ArrayList<>();

        // -- texts

        static int courtFault(String t, State out) {
            int n = t.length();
            int i = 0;
            boolean bench = false;
            String letters = null;
            String used = "";
            int[] target = null;
            boolean wantClause = true;
            while (true) {
                while (i < n && t.charAt(i) == ' ') i++;
                if (i == n) break;
                char ch = t.charAt(i);
                if (wantClause) {
                    if (ch == 'b' && !bench) {
                        bench = true;
                        target = out.bench;
                        letters = "ptulnhm";
                    } else if (ch == 'c' && out.cats.size() < 8) {
                        target = new int[] {1, 1, 1, 1, 0, 0, 0};
                        out.cats.add(target);
                        letters = "ptulfc";
                    } else if (ch == 'a' && out.accused.size() < 6) {
                        target = new int[] {50, 0, 0};
                        out.accused.add(target);
                        letters = "gkd";
                    } else {
                        return i;
                    }
                    used = "";
                    wantClause = false;
                    i++;
                } else if (ch == ';') {
                    wantClause = true;
                    i++;
                } else if (letters.indexOf(ch) >= 0 && used.indexOf(ch) < 0) {
                    used += ch;
                    i++;
                    while (i < n && t.charAt(i) == ' ') i++;
                    int from = i;
                    while (i < n && t.charAt(i) >= '0' && t.charAt(i) <= '9') i++;
                    if (i == from) return i;
                    if (i - from > 2) return from + 2;
                    int v = Integer.parseInt(t.substring(from, i));
                    int most;
                    if (letters.startsWith("gk")) most = ch == 'g' ? 99 : 1;
                    else if (ch == 'n' || ch == 'c') most = 99;
                    else most = ch == 'm' ? 27 : 9;
                    if (v > most) return i - 1;
                    target[letters.indexOf(ch)] = v;
                } else {
                    return i;
                }
            }
            return wantClause || out.cats.isEmpty() || out.accused.isEmpty() ? n : -1;
        }

        /** All ways to read a law at once: each is a stack of what is still to come (top first). */
        static int lawFault(String t) {
            Set<String> ways = new HashSet<>();
            ways.add("L0");
            for (int i = 0; i < t.length(); i++) {
                char ch = t.charAt(i);
                Set<String> next = new HashSet<>();
                if (ch == ' ') {
                    for (String w : ways) {
                        while (w.startsWith("D")) w = w.substring(2);
                        next.add(w);
                    }
                    ways = next;
                    continue;
                }
                for (String w : ways) go(w, ch, next);
                if (next.isEmpty()) return i;
                ways = next;
            }
            for (String w : ways) if (canEnd(w)) return -1;
            return t.length();
        }

        // symbols, each with a digit: L laws, M more laws, K clause, C condition, c more of it, T truth, t more,
        // U unit, S sum, s more, P term, p more, A atom, D digits that may follow, x<char> a terminal
        static boolean canEnd(String w) {
            for (int i = 0; i < w.length(); i += 2) {
                if ("MctspD".indexOf(w.charAt(i)) < 0) return false;
            }
            return true;
        }

        static void go(String w, char ch, Set<String> next) {
            if (w.isEmpty()) return;
            char top = w.charAt(0);
            char d = w.charAt(1);
            String rest = w.substring(2);
            char deeper = (char) (d + 1);
            switch (top) {
                case 'x': if (d == ch) next.add(rest); return;
                case 'L': go("K0M0" + rest, ch, next); return;
                case 'M': go("x;K0M0" + rest, ch, next); return;
                case 'K':
                    go("xyx:S0" + rest, ch, next);
                    if (ch == 'y') { next.add("x:S0" + rest); next.add("x:C0x?S0" + rest); }
                    return;
                case 'C': go("T" + d + "c" + d + rest, ch, next); return;
                case 'c': go("x|T" + d + "c" + d + rest, ch, next); go(rest, ch, next); return;
                case 'T': go("U" + d + "t" + d + rest, ch, next); return;
                case 't': go("x&U" + d + "t" + d + rest, ch, next); go(rest, ch, next); return;
                case 'U':
                    if (d < '6') {
                        go("x!U" + deeper + rest, ch, next);
                        go("x(C" + deeper + "x)" + rest, ch, next);
                    }
                    for (char q : "=<>".toCharArray()) go("S" + d + "x" + q + "S" + d + rest, ch, next);
                    return;
                case 'S': go("P" + d + "s" + d + rest, ch, next); return;
                case 's':
                    for (char q : "+-".toCharArray()) go("x" + q + "P" + d + "s" + d + rest, ch, next);
                    go(rest, ch, next);
                    return;
                case 'P': go("A" + d + "p" + d + rest, ch, next); return;
                case 'p':
                    for (char q : "*/".toCharArray()) go("x" + q + "A" + d + "p" + d + rest, ch, next);
                    go(rest, ch, next);
                    return;
                case 'A':
                    if ("dwgkhfmc".indexOf(ch) >= 0) next.add(rest);
                    if (ch >= '0' && ch <= '9') next.add("D3" + rest);
                    if (d < '6') go("x[S" + deeper + "x]" + rest, ch, next);
                    return;
                case 'D':
                    if (ch >= '0' && ch <= '9') {
                        if (d > '0') next.add("D" + (char) (d - 1) + rest);
                    } else {
                        go(rest, ch, next);
                    }
                    return;
                default: throw new IllegalStateException(w);
            }
        }

        // -- worth, by cutting the text at its weakest sign

        static int weakest(String e, String signs) {
            int depth = 0;
            for (int i = e.length() - 1; i >= 0; i--) {
                char ch = e.charAt(i);
                if (ch == ')' || ch == ']') depth++;
                if (ch == '(' || ch == '[') depth--;
                if (depth == 0 && signs.indexOf(ch) >= 0) return i;
            }
            return -1;
        }

        static long clamp(long v) { return Math.max(-1000000, Math.min(1000000, v)); }

        static long sum(String e, int[] env) {
            int i = weakest(e, "+-");
            if (i < 0) i = weakest(e, "*/");
            if (i >= 0) {
                long l = sum(e.substring(0, i), env);
                long r = sum(e.substring(i + 1), env);
                switch (e.charAt(i)) {
                    case '+': return clamp(l + r);
                    case '-': return clamp(l - r);
                    case '*': return clamp(l * r);
                    default: return r == 0 ? 0 : l / r;
                }
            }
            if (e.charAt(0) == '[') return sum(e.substring(1, e.length() - 1), env);
            int letter = "dwgkhfmc".indexOf(e.charAt(0));
            return letter >= 0 ? env[letter] : Long.parseLong(e);
        }

        static boolean condition(String e, int[] env) {
            int i = weakest(e, "|");
            if (i >= 0) return condition(e.substring(0, i), env) | condition(e.substring(i + 1), env);
            i = weakest(e, "&");
            if (i >= 0) return condition(e.substring(0, i), env) & condition(e.substring(i + 1), env);
            if (e.charAt(0) == '!') return !condition(e.substring(1), env);
            if (e.charAt(0) == '(') return condition(e.substring(1, e.length() - 1), env);
            i = weakest(e, "=<>");
            long l = sum(e.substring(0, i), env);
            long r = sum(e.substring(i + 1), env);
            return e.charAt(i) == '=' ? l == r : e.charAt(i) == '<' ? l < r : l > r;
        }

        static long worth(String law, int[] env) {
            for (String clause : law.replace(" ", "").split(";")) {
                String body = clause.substring(2);
                int q = body.indexOf('?');
                if (q < 0) return sum(body, env);
                if (condition(body.substring(0, q), env)) return sum(body.substring(q + 1), env);
            }
            return 0;
        }

        // -- moods and odds

        int mood(State s, int law, int c, int a, int d, int g) {
            int[] cat = s.cats.get(c);
            int[] acc = s.accused.get(a);
            long v;
            if (law < 0) {
                v = cat[d];
                if (d == 0) v += 2 * g + acc[1];
                if (d == 1) v += cat[4];
                if (d == 3) v += s.bench[5] / 3;
            } else {
                v = worth(laws.get(law), new int[] {d, cat[d], g, acc[1], s.bench[5], cat[4], s.bench[6], cat[5]});
            }
            v = Math.max(0, Math.min(99, v));
            return (int) (d == 3 && acc[2] == 1 ? v * 2 : v);
        }

        long[] odds(State s, int c, int a, int g) {
            int[] m = new int[4];
            int all = 0;
            for (int d = 0; d < 4; d++) all += m[d] = mood(s, holds, c, a, d, g);
            long[] o = new long[4];
            if (all == 0) { o[3] = B; return o; }
            int last = 3;
            while (m[last] == 0) last--;
            long left = B;
            for (int d = 0; d < last; d++) left -= o[d] = m[d] * B / all;
            o[last] = left;
            return o;
        }

        static final long B = 1000000000L;

        TreeMap<Integer, Long> parts(State s, int set, int a, int g) {
            TreeMap<Integer, Long> now = new TreeMap<>();
            now.put(0, B);
            for (int c = 0; c < 8; c++) {
                if ((set >> c & 1) == 0) continue;
                long[] o = odds(s, c, a, g);
                int last = 3;
                while (o[last] == 0) last--;
                TreeMap<Integer, Long> then = new TreeMap<>();
                for (var e : now.entrySet()) {
                    long left = e.getValue();
                    for (int d = 0; d <= last; d++) {
                        long p = d == last ? left : Math.multiplyExact(e.getValue(), o[d]) / B;
                        left -= p;
                        then.merge(e.getKey() + s.bench[d], p, Long::sum);
                    }
                }
                now = then;
            }
            return now;
        }

        long held(State s, int set, int a, int g) {
            long v = 0;
            for (var e : parts(s, set, a, g).entrySet()) if (e.getKey() >= s.bench[4]) v += e.getValue();
            return v;
        }

        long right(State s, int set, int a) {
            int g = s.accused.get(a)[0];
            return g * held(s, set, a, 1) / 100 + (100 - g) * (B - held(s, set, a, 0)) / 100;
        }

        long heldByGuilt(State s, int set, int a) {
            int g = s.accused.get(a)[0];
            return g * held(s, set, a, 1) / 100 + (100 - g) * held(s, set, a, 0) / 100;
        }

        // -- who is there

        boolean isCat(int c) { return now != null && c >= 0 && c < now.cats.size(); }
        boolean isAcc(int a) { return now != null && a >= 0 && a < now.accused.size(); }
        boolean isBit(int g) { return g == 0 || g == 1; }
        boolean isDeed(int d) { return d >= 0 && d < 4; }

        int serving() {
            int s = 0;
            if (now != null) for (int c = 0; c < now.cats.size(); c++) if (now.cats.get(c)[6] == 0) s |= 1 << c;
            return s;
        }

        boolean isSet(int set) { return set > 0 && (set & serving()) == set; }

        void act() {
            acts.addLast(now.copy());
            if (acts.size() > 40) acts.removeFirst();
        }

        int likely(State s, int law, int c, int a, int g) {
            int best = 0;
            for (int d = 1; d < 4; d++) if (mood(s, law, c, a, d, g) > mood(s, law, c, a, best, g)) best = d;
            return best;
        }

        List<Integer> drank() {
            List<Integer> l = new ArrayList<>();
            for (int set = 0; set < 1 << now.accused.size(); set++) {
                State s = now.copy();
                boolean ok = true;
                for (int a = 0; a < s.accused.size(); a++) {
                    s.accused.get(a)[1] = set >> a & 1;
                    boolean[] can = {true, true};
                    for (int[] e : seen) {
                        if (e[1] == a) for (int g = 0; g < 2; g++) can[g] &= odds(s, e[0], a, g)[e[2]] > 0;
                    }
                    ok &= can[0] || can[1];
                }
                if (ok) l.add(set);
            }
            return l;
        }

        // -- the calls

        long call(String name, int[] v, long seed) {
            switch (name) {
                case "feed": {
                    StringBuilder more = new StringBuilder(tape);
                    for (int n : v) {
                        for (int sh = 24; sh >= 0; sh -= 8) {
                            if ((n >>> sh & 255) != 0) more.append((char) (n >>> sh & 255));
                        }
                    }
                    if (more.length() > 240) return -1;
                    tape = more.toString();
                    return tape.length();
                }
                case "end":
                    if (v[0] < 0 || v[0] > tape.length()) return 0;
                    tape = tape.substring(0, v[0]);
                    return 1;
                case "fault": return v[0] == 0 ? courtFault(tape, new State()) : v[0] == 1 ? lawFault(tape) : -2;
                case "text": return text(v[0]);
                case "bench": return now == null || v[0] < 0 || v[0] > 6 ? -1 : now.bench[v[0]];
                case "cat": return !isCat(v[0]) || v[1] < 0 || v[1] > 6 ? THROWS : now.cats.get(v[0])[v[1]];
                case "accused": return !isAcc(v[0]) || v[1] < 0 || v[1] > 2 ? -1 : now.accused.get(v[0])[v[1]];
                case "law":
                    if (v[0] < -1 || v[0] >= laws.size()) return 0;
                    holds = v[0];
                    return 1;
                case "count": return count(v[0]);
                default: return now == null ? noCourt(name) : inCourt(name, v, seed);
            }
        }

        long noCourt(String name) {
            switch (name) {
                case "heat": case "milk": case "retire": return 0;
                case "fits": return -1000000;
                default: return -1;
            }
        }

        long text(int sort) {
            if (sort == 0) {
                State s = new State();
                if (courtFault(tape, s) != -1) return -1;
                tape = "";
                now = s;
                image = null;
                acts.clear();
                seen.clear();
                return s.cats.size();
            }
            if (sort != 1 || laws.size() == 4 || lawFault(tape) != -1) return -1;
            laws.add(tape);
            tape = "";
            return laws.size() - 1;
        }

        long count(int what) {
            switch (what) {
                case 0: return now == null ? 0 : now.cats.size();
                case 1: return now == null ? 0 : now.accused.size();
                case 2: return laws.size();
                case 3: return tape.length();
                case 4: return holds;
                case 5: return Integer.bitCount(serving());
                case 6: return now == null ? 0 : now.log.size();
                case 7: return seen.size();
                case 8: return acts.size();
                default: return -1000000;
            }
        }

        long inCourt(String name, int[] v, long seed) {
            switch (name) {
                case "mood": return isCat(v[0]) && isAcc(v[1]) && isDeed(v[2]) && isBit(v[3])
                        ? mood(now, holds, v[0], v[1], v[2], v[3]) : -1;
                case "odds": return isCat(v[0]) && isAcc(v[1]) && isDeed(v[2]) && isBit(v[3])
                        ? odds(now, v[0], v[1], v[3])[v[2]] : -1;
                case "held": return isSet(v[0]) && isAcc(v[1]) && isBit(v[2]) ? held(now, v[0], v[1], v[2]) : -1;
                case "right": return isSet(v[0]) && isAcc(v[1]) ? right(now, v[0], v[1]) : -1;
                case "fish":
                    if (!isCat(v[0]) || now.cats.get(v[0])[4] == 9) return -1;
                    act();
                    return ++now.cats.get(v[0])[4];
                case "nights":
                    if (v[0] < 1 || v[0] > 28) return -1;
                    act();
                    for (int[] c : now.cats) c[4] = c[4] < v[0] ? 0 : c[4] - v[0];
                    for (int i = 0; i < v[0]; i++) now.bench[6] = now.bench[6] == 27 ? 0 : now.bench[6] + 1;
                    return now.bench[6];
                case "heat":
                    if (v[0] < 0 || v[0] > 9 || v[0] == now.bench[5]) return 0;
                    act();
                    now.bench[5] = v[0];
                    return 1;
                case "milk":
                    if (!isAcc(v[0]) || now.accused.get(v[0])[1] == v[1]) return 0;
                    act();
                    now.accused.get(v[0])[1] = v[1];
                    return 1;
                case "retire":
                    if (!isCat(v[0]) || now.cats.get(v[0])[6] == v[1]) return 0;
                    act();
                    now.cats.get(v[0])[6] = v[1];
                    return 1;
                case "hear": return isSet(v[0]) && isAcc(v[1]) ? hear(v[0], v[1], seed) : -1;
                case "undo":
                    if (acts.isEmpty()) return -1;
                    now = acts.removeLast();
                    return acts.size();
                case "log": return v[0] < 0 || v[0] >= now.log.size() || v[1] < 0 || v[1] > 2
                        ? -1 : now.log.get(v[0])[v[1]];
                case "ask": return ask(v[0], v[1], v[2]);
                case "three": return isAcc(v[0]) ? three(v[0]) : -1;
                case "spare": return spare(v[0], v[1]);
                case "mercy": return mercy(v[0], v[1], v[2], v[3]);
                default: return inCourtToo(name, v);
            }
        }

        long inCourtToo(String name, int[] v) {
            switch (name) {
                case "appeals": {
                    if (!isSet(v[0]) || !isAcc(v[1]) || v[2] < 0 || v[2] > 9) return -1;
                    State s = now.copy();
                    long p = B;
                    for (int i = 0; i <= v[2]; i++) {
                        p = p * held(s, v[0], v[1], 0) / B;
                        if (s.bench[5] > 0) s.bench[5]--;
                    }
                    return p;
                }
                case "alike": {
                    if (!isCat(v[0]) || !isAcc(v[1]) || !isCat(v[2]) || !isAcc(v[3])) return -1;
                    if (v[0] == v[2] || v[1] == v[3]) return -1;
                    long p = 0;
                    for (int d = 0; d < 4; d++) p += odds(now, v[0], v[1], 1)[d] * odds(now, v[2], v[3], 1)[d] / B;
                    return p;
                }
                case "rests": return rests(v[0], v[1]);
                case "surely": {
                    if (!isCat(v[0]) || !isAcc(v[1])) return -1;
                    int bits = 0;
                    for (int d = 0; d < 4; d++) {
                        if (odds(now, v[0], v[1], 0)[d] + odds(now, v[0], v[1], 1)[d] == 0) bits |= 1 << d;
                    }
                    return bits;
                }
                case "noisy": {
                    if (!isAcc(v[0]) || !isBit(v[1]) || serving() == 0) return -1;
                    int best = -1;
                    long most = -1;
                    for (int c = 7; c >= 0; c--) {
                        if ((serving() >> c & 1) == 0) continue;
                        long p = Math.abs(odds(now, c, v[0], 1)[0] - odds(now, c, v[0], 0)[0]);
                        if (p >= most) { most = p; best = c; }
                    }
                    return v[1] == 0 ? best : most;
                }
                case "mean": {
                    if (!isSet(v[0]) || !isAcc(v[1]) || !isBit(v[2])) return -1;
                    long p = 0;
                    for (var e : parts(now, v[0], v[1], v[2]).entrySet()) p += e.getKey() * e.getValue();
                    return p / 1000000;
                }
                case "likely": return isCat(v[0]) && isAcc(v[1]) && isBit(v[2])
                        ? likely(now, holds, v[0], v[1], v[2]) : -1;
                case "quiet": {
                    if (!isSet(v[0]) || !isAcc(v[1]) || !isBit(v[2])) return -1;
                    long p = B;
                    for (int c = 0; c < 8; c++) {
                        if ((v[0] >> c & 1) == 1) p = p * (B - odds(now, c, v[1], v[2])[0]) / B;
                    }
                    return p;
                }
                case "bar": return vary(v, 4, 100);
                case "moonlit": return vary(v, 6, 28);
                case "brothers": {
                    if (!isSet(v[0]) || !isAcc(v[1]) || !isAcc(v[2]) || v[1] == v[2]) return -1;
                    long p = heldByGuilt(now, v[0], v[1]);
                    long q = heldByGuilt(now, v[0], v[2]);
                    return p * q / B + (B - p) * (B - q) / B;
                }
                default: return ofSeen(name, v);
            }
        }

        long vary(int[] v, int place, int bound) {
            if (!isSet(v[0]) || !isAcc(v[1]) || !isBit(v[2])) return -1;
            State s = now.copy();
            long most = -1;
            int best = -1;
            for (int i = bound - 1; i >= 0; i--) {
                s.bench[place] = i;
                long r = right(s, v[0], v[1]);
                if (r >= most) { most = r; best = i; }
            }
            return v[2] == 0 ? best : most;
        }

        long ofSeen(String name, int[] v) {
            switch (name) {
                case "see":
                    if (!isCat(v[0]) || !isAcc(v[1]) || !isDeed(v[2]) || seen.size() == 16) return -1;
                    seen.add(v.clone());
                    return seen.size();
                case "guess": {
                    if (!isAcc(v[0])) return -1;
                    long[] p = {B, B};
                    for (int[] e : seen) {
                        if (e[1] == v[0]) for (int g = 0; g < 2; g++) p[g] = p[g] * odds(now, e[0], e[1], g)[e[2]] / B;
                    }
                    int g = now.accused.get(v[0])[0];
                    long x = g * p[1];
                    long y = (100 - g) * p[0];
                    return x + y == 0 ? -1 : x * 1000000 / (x + y);
                }
                case "drank": {
                    List<Integer> l = drank();
                    return v[0] == -1 ? l.size() : v[0] >= 0 && v[0] < l.size() ? l.get(v[0]) : -1;
                }
                case "sure": {
                    List<Integer> l = drank();
                    int all = 63;
                    for (int s : l) all &= s;
                    return l.isEmpty() ? -1 : all;
                }
                case "fits": {
                    if (!isBit(v[0])) return -1000000;
                    int best = -2;
                    int most = -1;
                    for (int law = laws.isEmpty() ? -1 : 0; law < laws.size(); law++) {
                        int n = 0;
                        for (int[] e : seen) {
                            if (likely(now, law, e[0], e[1], 0) == e[2] || likely(now, law, e[0], e[1], 1) == e[2]) n++;
                        }
                        if (n > most) { most = n; best = law; }
                    }
                    return v[0] == 0 ? best : most;
                }
                case "often": {
                    if (!isCat(v[0]) || !isDeed(v[1])) return -1;
                    int n = 0;
                    for (int[] e : now.log) if (e[0] == v[0] && e[2] == v[1]) n++;
                    return n;
                }
                case "harsh": {
                    int[] p = new int[now.cats.size()];
                    int best = 0;
                    for (int[] e : now.log) p[e[0]] += now.bench[e[2]];
                    for (int c = 0; c < p.length; c++) if (p[c] > p[best]) best = c;
                    return now.log.isEmpty() ? -1 : best;
                }
                case "free": {
                    if (!isSet(v[0])) return -1;
                    long p = B;
                    for (int a = 0; a < now.accused.size(); a++) p -= p * heldByGuilt(now, v[0], a) / B;
                    return p;
                }
                case "image": image = now.copy(); return now.log.size();
                case "back":
                    if (image == null) return -1;
                    now = image.copy();
                    acts.clear();
                    return now.log.size();
                default: throw new IllegalStateException(name);
            }
        }

        long hear(int set, int a, long seed) {
            act();
            State began = now.copy();
            long x = seed * 6364136223846793005L + 1442695040888963407L;
            int g = (x >>> 33) % 100 < now.accused.get(a)[0] ? 1 : 0;
            int points = 0;
            for (int c = 0; c < 8; c++) {
                if ((set >> c & 1) == 0) continue;
                x = x * 6364136223846793005L + 1442695040888963407L;
                long r = (x >>> 33) % 1000;
                long[] o = odds(began, c, a, g);
                int d = r < o[0] / 1000000 ? 0 : r < (o[0] + o[1]) / 1000000 ? 1
                        : r < (o[0] + o[1] + o[2]) / 1000000 ? 2 : 3;
                if (now.cats.get(c)[5] < 99) now.cats.get(c)[5]++;
                now.log.add(0, new int[] {c, a, d});
                if (now.log.size() > 60) now.log.remove(60);
                points += now.bench[d];
            }
            return points >= now.bench[4] ? 1 : 0;
        }

        long ask(int n, int a, int what) {
            if (!isAcc(a) || !isBit(what) || n < 1) return -1;
            long most = -1;
            int best = -1;
            for (int set = 1; set < 256; set++) {
                if (!isSet(set) || Integer.bitCount(set) != n) continue;
                long r = right(now, set, a);
                if (r > most) { most = r; best = set; }
            }
            return best < 0 ? -1 : what == 0 ? best : most;
        }

        long three(int a) {
            for (int n = 1; n <= 8; n++) {
                for (int set = 1; set < 256; set++) {
                    if (!isSet(set) || Integer.bitCount(set) != n) continue;
                    long h = held(now, set, a, 1);
                    if (h > 0 && h >= 3 * held(now, set, a, 0)) return set;
                }
            }
            return -1;
        }

        long spare(int a, int what) {
            if (!isAcc(a) || !isBit(what) || Integer.bitCount(serving()) < 2) return -1;
            long most = -1;
            int best = -1;
            for (int c = 0; c < 8; c++) {
                if ((serving() >> c & 1) == 0) continue;
                long r = right(now, serving() ^ 1 << c, a);
                if (r > most) { most = r; best = c; }
            }
            return what == 0 ? best : most;
        }

        long mercy(int set, int a, int b, int what) {
            if (!isSet(set) || !isAcc(a) || !isBit(what) || b < 0 || b > 100 || Integer.bitCount(set) > 4) return -1;
            int k = Integer.bitCount(set);
            for (int fish = 0; fish <= 3 * k; fish++) {
                for (int row = 0; row <= 3333; row++) {
                    int[] digits = {row / 1000, row / 100 % 10, row / 10 % 10, row % 10};
                    int total = 0;
                    boolean ok = true;
                    for (int i = 0; i < 4; i++) {
                        total += digits[i];
                        ok &= digits[i] <= (i < 4 - k ? 0 : 3);
                    }
                    if (!ok || total != fish) continue;
                    State s = now.copy();
                    int at = 4 - k;
                    for (int c = 0; c < 8; c++) if ((set >> c & 1) == 1) s.cats.get(c)[4] += digits[at++];
                    if (held(s, set, a, 0) <= b * 10000000L) return what == 0 ? fish : row;
                }
            }
            return -1;
        }

        long rests(int a, int i) {
            if (!isAcc(a)) return -1;
            List<Integer> found = new ArrayList<>();
            State[] s = {now.copy(), now.copy()};
            for (int m = 0; m < 2; m++) s[m].accused.get(a)[1] = m;
            for (int m = 0; m < 2; m++) {
                for (int c = 0; c < 8; c++) {
                    if (!isSet(1 << c)) continue;
                    long h = held(s[m], 1 << c, a, 1);
                    boolean ok = held(s[1 - m], 1 << c, a, 1) >= h;
                    for (int o = 0; o < 8; o++) ok &= !isSet(1 << o) || held(s[m], 1 << o, a, 1) <= h;
                    if (ok) found.add(10 * m + c);
                }
            }
            return i == -1 ? found.size() : i >= 0 && i < found.size() ? found.get(i) : -1;
        }
    }

    // ---------------------------------------------------------------- the class, by the same names

    static long real(CatCourt x, String name, int[] v, long seed) {
        switch (name) {
            case "feed": return x.feed(v[0], v[1], v[2], v[3], v[4]);
            case "end": return x.end(v[0]) ? 1 : 0;
            case "fault": return x.fault(v[0]);
            case "text": return x.text(v[0]);
            case "bench": return x.bench(v[0]);
            case "cat": try { return x.cat(v[0], v[1]); } catch (NoSuchElementException e) { return THROWS; }
            case "accused": return x.accused(v[0], v[1]);
            case "law": return x.law(v[0]) ? 1 : 0;
            case "mood": return x.mood(v[0], v[1], v[2], v[3]);
            case "odds": return x.odds(v[0], v[1], v[2], v[3]);
            case "held": return x.held(v[0], v[1], v[2]);
            case "right": return x.right(v[0], v[1]);
            case "fish": return x.fish(v[0]);
            case "nights": return x.nights(v[0]);
            case "heat": return x.heat(v[0]) ? 1 : 0;
            case "milk": return x.milk(v[0], v[1] == 1) ? 1 : 0;
            case "retire": return x.retire(v[0], v[1] == 1) ? 1 : 0;
            case "hear": return x.hear(v[0], v[1], seed);
            case "undo": return x.undo();
            case "log": return x.log(v[0], v[1]);
            case "ask": return x.ask(v[0], v[1], v[2]);
            case "three": return x.three(v[0]);
            case "spare": return x.spare(v[0], v[1]);
            case "mercy": return x.mercy(v[0], v[1], v[2], v[3]);
            case "appeals": return x.appeals(v[0], v[1], v[2]);
            case "alike": return x.alike(v[0], v[1], v[2], v[3]);
            case "rests": return x.rests(v[0], v[1]);
            case "surely": return x.surely(v[0], v[1]);
            case "noisy": return x.noisy(v[0], v[1]);
            case "mean": return x.mean(v[0], v[1], v[2]);
            case "likely": return x.likely(v[0], v[1], v[2]);
            case "quiet": return x.quiet(v[0], v[1], v[2]);
            case "bar": return x.bar(v[0], v[1], v[2]);
            case "moonlit": return x.moonlit(v[0], v[1], v[2]);
            case "brothers": return x.brothers(v[0], v[1], v[2]);
            case "see": return x.see(v[0], v[1], v[2]);
            case "guess": return x.guess(v[0]);
            case "drank": return x.drank(v[0]);
            case "sure": return x.sure();
            case "fits": return x.fits(v[0]);
            case "often": return x.often(v[0], v[1]);
            case "harsh": return x.harsh();
            case "free": return x.free(v[0]);
            case "image": return x.image();
            case "back": return x.back();
            case "count": return x.count(v[0]);
            default: throw new IllegalStateException(name);
        }
    }

    // ---------------------------------------------------------------- runs

    // behind a name, a letter for each argument: c cat, a accused, d deed, g bit, s set, w what, i index, n number,
    // m how many, f four bytes, t a truth
    static final String[] CALLS = {
        "bench w", "cat cw", "accused aw", "law i", "mood cadg", "odds cadg", "held sag", "right sa", "fish c",
        "fish c", "nights n", "heat w", "milk at", "retire ct", "hear sa", "hear sa", "hear sa", "undo", "log iw",
        "ask mag", "three a", "spare ag", "mercy sang", "appeals saw", "alike caca", "rests ai", "rests ai",
        "surely ca", "noisy ag", "mean sag", "likely cag", "quiet sag", "bar sag", "moonlit sag", "brothers saa",
        "see cad", "see cad", "guess a", "drank i", "sure", "fits g", "often cd", "harsh", "free s", "image", "back",
        "count w", "fault g", "text g", "end n", "feed fffff",
    };

    static final int[] EDGES = {
        Integer.MIN_VALUE, Integer.MAX_VALUE, -1000000, -2, -1, 9, 10, 28, 29, 31, 32, 60, 99, 100, 101, 240, 255, 256,
    };

    static final Random R = new Random(20261118);
    static int wrong = 0;
    static StringBuilder story;

    static int pick(int n) { return R.nextInt(n); }

    static int argument(char sort, Model m) {
        if (pick(40) == 0) return EDGES[pick(EDGES.length)];
        int cats = m.now == null ? 2 : m.now.cats.size();
        int people = m.now == null ? 2 : m.now.accused.size();
        switch (sort) {
            case 'c': return pick(25) == 0 ? cats : pick(cats);
            case 'a': return pick(25) == 0 ? people : pick(people);
            case 'd': return pick(30) == 0 ? 4 : pick(4);
            case 'g': return pick(25) == 0 ? 2 : pick(2);
            case 't': return pick(2);
            case 's': {
                int set = pick(1 << cats) & (pick(12) == 0 ? -1 : m.serving() | (m.now == null ? 3 : 0));
                if (pick(3) > 0) while (Integer.bitCount(set) > 4) set &= set - 1;
                return set;
            }
            case 'w': return pick(10) - (pick(12) == 0 ? 1 : 0);
            case 'm': return pick(9);
            case 'i': return pick(6) - 1;
            case 'n': return pick(3) == 0 ? pick(102) : pick(30);
            default: return pick(3) == 0 ? 0 : R.nextInt();
        }
    }

    static void both(CatCourt x, Model m, String name, int[] v, long seed) {
        long want = m.call(name, v.clone(), seed);
        long got = real(x, name, v, seed);
        story.append(name).append(java.util.Arrays.toString(v)).append(name.equals("hear") ? " seed " + seed : "")
            .append(" -> ").append(got).append('\n');
        if (got != want) {
            wrong++;
            if (wrong <= 3) System.out.println(story + "  due is " + want + " (tape '" + m.tape + "')");
        }
    }

    static void feed(CatCourt x, Model m, String text) {
        for (int i = 0; i < text.length(); i += 20) {
            int[] v = new int[5];
            for (int j = 0; j < 20 && i + j < text.length(); j++) v[j / 4] |= text.charAt(i + j) << 24 - 8 * (j % 4);
            both(x, m, "feed", v, 0);
        }
    }

    static String blank() { return pick(9) == 0 ? " " : ""; }

    static String items(String letters, int[] most) {
        StringBuilder s = new StringBuilder();
        int start = pick(letters.length());
        for (int k = 0; k < letters.length(); k++) {
            int i = (start + k) % letters.length();
            if (pick(2) == 0) continue;
            s.append(blank()).append(letters.charAt(i)).append(blank());
            int v = pick(most[i] + 1);
            if (pick(3) == 0) v = pick(Math.min(3, most[i] + 1));
            if (pick(150) == 0) v = most[i] + 1;
            s.append(v < 10 && pick(8) == 0 ? "0" + v : "" + v).append(blank());
        }
        return s.toString();
    }

    static String court() {
        List<String> l = new ArrayList<>();
        int cats = pick(4) == 0 ? pick(9) : 1 + pick(4);
        int people = pick(4) == 0 ? pick(7) : 1 + pick(3);
        if (pick(30) == 0) cats += 8;
        if (pick(30) == 0) people += 6;
        if (pick(4) > 0) l.add("b" + items("ptulnhm", new int[] {9, 9, 9, 9, 20, 9, 27}));
        for (int i = 0; i < cats; i++) l.add("c" + items("ptulfc", new int[] {9, 9, 9, 9, 9, 99}));
        for (int i = 0; i < people; i++) l.add("a" + items("gkd", new int[] {99, 1, 1}));
        if (pick(3) == 0) java.util.Collections.shuffle(l, R);
        return String.join(";", l);
    }

    static String atom(int depth) {
        if (depth < 7 && pick(6) == 0) return "[" + blank() + sum(depth + 1) + blank() + "]";
        return pick(2) == 0 ? "" + "dwgkhfmc".charAt(pick(8)) : "" + (pick(4) == 0 ? pick(10000) : pick(10));
    }

    static String term(int depth) {
        StringBuilder s = new StringBuilder(atom(depth));
        while (pick(4) == 0) s.append(blank()).append("*/".charAt(pick(2))).append(blank()).append(atom(depth));
        return s.toString();
    }

    static String sum(int depth) {
        StringBuilder s = new StringBuilder(term(depth));
        while (pick(3) == 0) s.append(blank()).append("+-".charAt(pick(2))).append(blank()).append(term(depth));
        return s.toString();
    }

    static String unit(int depth) {
        if (depth < 7 && pick(4) == 0) return "!" + blank() + unit(depth + 1);
        if (depth < 7 && pick(4) == 0) return "(" + condition(depth + 1) + ")" + blank();
        return sum(depth) + blank() + "=<>".charAt(pick(3)) + sum(depth);
    }

    static String condition(int depth) {
        StringBuilder s = new StringBuilder(unit(depth));
        while (pick(4) == 0) s.append("&|".charAt(pick(2))).append(blank()).append(unit(depth));
        return s.toString();
    }

    static String law() {
        StringBuilder s = new StringBuilder();
        int clauses = 1 + pick(4);
        for (int i = 0; i < clauses; i++) {
            s.append(i == 0 ? "" : ";").append(blank()).append("y").append(blank()).append(":");
            if (pick(3) > 0) s.append(condition(0)).append("?").append(blank());
            s.append(sum(0));
        }
        return s.toString();
    }

    static String spoiled(String text, String signs) {
        StringBuilder s = new StringBuilder(text);
        for (int k = pick(3); k >= 0 && s.length() > 0; k--) {
            int i = pick(s.length());
            switch (pick(4)) {
                case 0: s.setCharAt(i, signs.charAt(pick(signs.length()))); break;
                case 1: s.insert(i, signs.charAt(pick(signs.length()))); break;
                case 2: s.deleteCharAt(i); break;
                default: s.setLength(i); break;
            }
        }
        return s.toString();
    }

    static void tell(CatCourt x, Model m, int sort) {
        both(x, m, "end", new int[] {0}, 0);
        String text = sort == 0 ? court() : law();
        if (pick(3) == 0) text = spoiled(text, sort == 0 ? "bcaptulnhmfgkd;0123456789 x" : "y:?|&!()=<>+-*/[]0123456789dwgkhfmc; x");
        feed(x, m, text);
        both(x, m, "fault", new int[] {sort}, 0);
        both(x, m, "text", new int[] {sort}, 0);
    }

    static void run() {
        CatCourt x = new CatCourt();
        Model m = new Model();
        story = new StringBuilder("---- a run\n");
        int calls = 40 + pick(400);
        for (int i = 0; i < calls; i++) {
            if (m.now == null ? pick(4) == 0 : pick(120) == 0) tell(x, m, 0);
            if (pick(m.laws.size() < 4 ? 25 : 200) == 0) tell(x, m, 1);
            String[] call = CALLS[pick(CALLS.length)].split(" ");
            int n = call.length < 2 ? 0 : call[1].length();
            int[] v = new int[n];
            for (int k = 0; k < n; k++) v[k] = argument(call[1].charAt(k), m);
            if (call[0].equals("milk") || call[0].equals("retire")) v[1] &= 1;
            both(x, m, call[0], v, pick(2) == 0 ? pick(100) : R.nextLong());
        }
    }

    static void texts() {
        CatCourt x = new CatCourt();
        Model m = new Model();
        for (int i = 0; i < 20000; i++) {
            story = new StringBuilder("---- a text\n");
            int sort = pick(2);
            String text = sort == 0 ? court() : law();
            if (pick(4) > 0) text = spoiled(text, sort == 0 ? "bcaptulnhmfgkd;0123456789 x" : "y:?|&!()=<>+-*/[]0123456789dwgkhfmc; x");
            both(x, m, "end", new int[] {0}, 0);
            feed(x, m, text);
            both(x, m, "fault", new int[] {sort}, 0);
        }
    }

    public static void main(String[] args) {
        int runs = args.length > 0 ? Integer.parseInt(args[0]) : 250;
        if (args.length > 1) R.setSeed(Long.parseLong(args[1]));
        texts();
        for (int i = 0; i < runs; i++) run();
        System.out.println(wrong == 0 ? "all answers are as the model's" : wrong + " answers are not as the model's");
        if (wrong != 0) System.exit(1);
    }
}
