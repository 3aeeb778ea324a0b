import java.util.ArrayDeque;
import java.util.ArrayList;
import java.util.Arrays;
import java.util.Deque;
import java.util.HashSet;
import java.util.List;
import java.util.Set;

/** A second reading of the document, written plainly and apart from the class: FuzzTest compares the two. */
final class Model {
    static final int NONE = -1;

    static final class Pot {
        int thing, height, tender, water;
        Pot copy() { Pot p = new Pot(); p.thing = thing; p.height = height; p.tender = tender; p.water = water; return p; }
    }

    static final class House {
        int[] degree = new int[8];
        Pot pot;
        House() { Arrays.fill(degree, 50); }
        House copy() { House h = new House(); h.degree = degree.clone(); h.pot = pot == null ? null : pot.copy(); return h; }
        List<Integer> sure() { List<Integer> l = new ArrayList<>(); for (int t = 0; t < 8; t++) if (degree[t] >= 90) l.add(t); return l; }
        int sureSet() { int s = 0; for (int t : sure()) s += 1 << t; return s; }
    }

    record Env(int height, int tender, int water, int degree, int thing, int week, int sures, int lines) { }
    interface Ex { int of(Env e); }
    interface Cond { boolean of(Env e); }
    record Reason(int thing, Set<Integer> from, int n) { }
    record LawLine(String word, Ex e, Cond b) { }
    record Work(int house, boolean sure, int thing) { }
    record Plan(int week, String what, int house, int a, int b) { }

    static final class S {
        int state, most = 3, frost, bees, week, breaches;
        int[] stock = new int[8];
        boolean[][] line = new boolean[8][8];
        List<House> houses = new ArrayList<>();
        List<int[]> book = new ArrayList<>();
        List<int[]> talks = new ArrayList<>();
        List<Reason> reasons = new ArrayList<>();
        List<LawLine> law = new ArrayList<>();
        List<Work> works = new ArrayList<>();
        List<Plan> plan = new ArrayList<>();
        S copy() {
            S s = new S();
            s.state = state; s.most = most; s.frost = frost; s.bees = bees; s.week = week; s.breaches = breaches;
            s.stock = stock.clone();
            for (int i = 0; i < 8; i++) s.line[i] = line[i].clone();
            for (House h : houses) s.houses.add(h.copy());
            s.book = new ArrayList<>(book); s.talks = new ArrayList<>(talks);
            s.reasons = reasons; s.law = law; s.works = works; s.plan = plan;
            return s;
        }
    }

    S s = new S();
    S image;
    List<S> undo = new ArrayList<>();
    byte[] tape = new byte[0];
    int fault = 0, place = NONE;

    boolean isHouse(int h) { return h >= 0 && h < s.houses.size(); }
    static boolean in(int v, int a, int b) { return a <= v && v <= b; }

    int state(int v) { int was = s.state; s.state = v; undo.clear(); return was; }
    int house() { if (s.houses.size() == 8) return NONE; s.houses.add(new House()); undo.clear(); return s.houses.size() - 1; }

    boolean set(int what, int who, int v) {
        boolean ok = switch (what) {
            case 0 -> in(v, 0, 8);
            case 1, 2 -> in(v, 0, 1000);
            case 3 -> in(who, 0, 7) && in(v, 0, 5);
            default -> false;
        };
        if (!ok) return false;
        switch (what) { case 0 -> s.most = v; case 1 -> s.frost = v; case 2 -> s.bees = v; default -> s.stock[who] = v; }
        undo.clear();
        return true;
    }

    boolean line(int a, int b, boolean is) {
        if (!isHouse(a) || !isHouse(b) || a == b) return false;
        s.line[a][b] = is; s.line[b][a] = is; undo.clear();
        return true;
    }

    int feed(int... n) {
        if (tape.length + 20 > 400) return NONE;
        java.nio.ByteBuffer b = java.nio.ByteBuffer.allocate(tape.length + 20);
        b.put(tape);
        for (int i : n) b.putInt(i);
        tape = b.array();
        return tape.length;
    }

    boolean end(int n) { if (!in(n, 0, tape.length)) return false; tape = Arrays.copyOf(tape, n); return true; }

    int text(int k) {
        byte[] t = tape;
        tape = new byte[0];
        fault = 0; place = NONE;
        if (!in(k, 0, 3)) return NONE;
        try {
            Parser p = new Parser(t, s.houses.size());
            switch (k) {
                case 0 -> { s.reasons = p.reasons(); undo.clear(); return s.reasons.size(); }
                case 1 -> { s.law = p.law(); return s.law.size(); }
                case 2 -> { s.works = p.works(); return s.works.size(); }
                default -> { s.plan = p.plan(); undo.clear(); return s.plan.size(); }
            }
        } catch (Fault f) {
            fault = f.kind; place = f.place;
            return NONE;
        }
    }

    int fault(int what) { return what == 0 ? fault : what == 1 ? place : NONE; }

    static final class Fault extends RuntimeException {
        private static final long serialVersionUID = 1L;
        final int kind, place;
        Fault(int kind, int place) { super(null, null, false, false); this.kind = kind; this.place = place; }
    }

    /** Reads letter by letter, looking one token ahead. */
    static final class Parser {
        final byte[] t;
        final int houses;
        int at;
        Parser(byte[] t, int houses) { this.t = t; this.houses = houses; }

        void blanks() { while (at < t.length && (t[at] == 32 || t[at] == 10)) at++; }
        boolean letter(int i) { return i < t.length && (t[i] >= 65 && t[i] <= 90 || t[i] >= 97 && t[i] <= 122); }
        boolean digit(int i) { return i < t.length && t[i] >= 48 && t[i] <= 57; }
        /** The next token as a text: "" at the end. */
        String peek() {
            blanks();
            if (at >= t.length) return "";
            int to = at;
            if (letter(at)) while (letter(to)) to++;
            else if (digit(at)) while (digit(to)) to++;
            else to++;
            return new String(t, at, to - at, java.nio.charset.StandardCharsets.ISO_8859_1);
        }
        boolean isNumber() { String p = peek(); return !p.isEmpty() && Character.isDigit(p.charAt(0)) && p.length() <= 4; }
        void skip() { at += peek().length(); }
        void want(String w) { if (!peek().equals(w)) throw new Fault(1, at); skip(); }
        int number(int a, int b) {
            if (!isNumber()) throw new Fault(1, at);
            int v = Integer.parseInt(peek());
            if (v < a || v > b) throw new Fault(2, at);
            skip();
            return v;
        }
        int other(int thing) {
            blanks();
            int p = at;
            int v = number(0, 7);
            if (v == thing) throw new Fault(2, p);
            return v;
        }

        List<Reason> reasons() {
            List<Reason> l = new ArrayList<>();
            while (!peek().isEmpty()) {
                int p = at;
                int thing = number(0, 7);
                if (l.size() == 16) throw new Fault(3, p);
                Set<Integer> from = new HashSet<>();
                int n = 0;
                if (peek().equals("clashes")) {
                    skip();
                    from.add(other(thing));
                } else {
                    want("from");
                    from.add(other(thing));
                    while (peek().equals("and")) { skip(); from.add(other(thing)); }
                    want("gives");
                    n = number(1, 100);
                }
                want(";");
                l.add(new Reason(thing, from, n));
            }
            return l;
        }

        void key(List<?> l, int most, String... words) {
            if (!Arrays.asList(words).contains(peek())) throw new Fault(1, at);
            if (l.size() == most) throw new Fault(3, at);
        }

        List<LawLine> law() {
            List<LawLine> l = new ArrayList<>();
            while (!peek().isEmpty()) {
                key(l, 16, "grow", "lower", "seed");
                String w = peek();
                skip();
                Ex e = e();
                Cond b = null;
                if (peek().equals("when")) { skip(); b = b(0); }
                want(";");
                l.add(new LawLine(w, e, b));
            }
            return l;
        }

        Cond b(int open) {
            Cond x = a(open);
            while (peek().equals("or")) { skip(); Cond l = x, r = a(open); x = v -> l.of(v) || r.of(v); }
            return x;
        }
        Cond a(int open) {
            Cond x = c(open);
            while (peek().equals("and")) { skip(); Cond l = x, r = c(open); x = v -> l.of(v) && r.of(v); }
            return x;
        }
        Cond c(int open) {
            String p = peek();
            if (p.equals("not") || p.equals("(")) {
                if (open == 8) throw new Fault(3, at);
                skip();
                if (p.equals("not")) { Cond x = c(open + 1); return v -> !x.of(v); }
                Cond x = b(open + 1);
                want(")");
                return x;
            }
            Ex l = e();
            String sign = peek();
            if (!sign.equals("<") && !sign.equals("=") && !sign.equals(">")) throw new Fault(1, at);
            skip();
            Ex r = e();
            return switch (sign) {
                case "<" -> v -> l.of(v) < r.of(v);
                case "=" -> v -> l.of(v) == r.of(v);
                default -> v -> l.of(v) > r.of(v);
            };
        }
        Ex e() {
            Ex x = t();
            while (peek().equals("+") || peek().equals("-")) {
                boolean plus = peek().equals("+");
                skip();
                Ex l = x, r = t();
                x = plus ? v -> l.of(v) + r.of(v) : v -> l.of(v) - r.of(v);
            }
            return x;
        }
        Ex t() {
            Ex x = u();
            while (peek().equals("*") || peek().equals("/")) {
                boolean times = peek().equals("*");
                skip();
                Ex l = x;
                if (times) { Ex r = u(); x = v -> l.of(v) * r.of(v); }
                else { int n = number(1, 9999); x = v -> l.of(v) / n; }
            }
            return x;
        }
        Ex u() {
            if (isNumber()) { int n = number(0, 9999); return v -> n; }
            String p = peek();
            Ex x = switch (p) {
                case "height" -> Env::height;
                case "tender" -> Env::tender;
                case "water" -> Env::water;
                case "degree" -> Env::degree;
                case "thing" -> Env::thing;
                case "week" -> Env::week;
                case "sures" -> Env::sures;
                case "lines" -> Env::lines;
                default -> throw new Fault(1, at);
            };
            skip();
            return x;
        }

        List<Work> works() {
            List<Work> l = new ArrayList<>();
            while (!peek().isEmpty()) {
                key(l, 12, "work");
                skip();
                int h = number(0, houses - 1);
                String w = peek();
                if (!w.equals("sure") && !w.equals("doubts")) throw new Fault(1, at);
                skip();
                int t = number(0, 7);
                want(";");
                l.add(new Work(h, w.equals("sure"), t));
            }
            return l;
        }

        List<Plan> plan() {
            List<Plan> l = new ArrayList<>();
            while (!peek().isEmpty()) {
                key(l, 16, "on");
                skip();
                int week = number(0, 999);
                String w = peek();
                int h, a = 0, b = 0;
                switch (w) {
                    case "pot" -> { skip(); h = number(0, houses - 1); want("of"); a = number(0, 7); want("tender"); b = number(0, 9); }
                    case "water" -> { skip(); h = number(0, houses - 1); want("by"); a = number(1, 99); }
                    case "weed" -> { skip(); h = number(0, houses - 1); }
                    case "tell" -> { skip(); h = number(0, houses - 1); want("of"); a = number(0, 7); want("to"); b = number(0, 100); }
                    default -> throw new Fault(1, at);
                }
                want(";");
                l.add(new Plan(week, w, h, a, b));
            }
            return l;
        }
    }

    void keep() { undo.add(s.copy()); if (undo.size() > 6) undo.remove(0); }
    static void write(S s, int what, int h, int t) { if (s.book.size() < 150) s.book.add(new int[] {s.week, what, h, t}); }

    static boolean doPot(S s, int h, int t, int tender) {
        House x = s.houses.get(h);
        if (x.pot != null) return false;
        x.pot = new Pot();
        x.pot.thing = t; x.pot.height = 10; x.pot.tender = tender;
        write(s, 0, h, t);
        return true;
    }
    static boolean doWater(S s, int h, int n) {
        Pot p = s.houses.get(h).pot;
        if (p == null) return false;
        p.water = Math.min(99, p.water + n);
        return true;
    }
    static boolean doWeed(S s, int h) { if (s.houses.get(h).pot == null) return false; gone(s, h, 1); return true; }
    static void gone(S s, int h, int why) { House x = s.houses.get(h); write(s, why, h, x.pot.thing); x.pot = null; }

    boolean pot(int h, int t, int tender) {
        if (!isHouse(h) || !in(t, 0, 7) || !in(tender, 0, 9) || s.houses.get(h).pot != null) return false;
        keep();
        return doPot(s, h, t, tender);
    }
    boolean water(int h, int n) {
        if (!isHouse(h) || !in(n, 1, 99) || s.houses.get(h).pot == null) return false;
        keep();
        return doWater(s, h, n);
    }
    boolean weed(int h) {
        if (!isHouse(h) || s.houses.get(h).pot == null) return false;
        keep();
        return doWeed(s, h);
    }
    boolean tell(int h, int t, int d) {
        if (!isHouse(h) || !in(t, 0, 7) || !in(d, 0, 100)) return false;
        keep();
        s.houses.get(h).degree[t] = d;
        return true;
    }

    static int lines(S s, int h) { int n = 0; for (boolean b : s.line[h]) if (b) n++; return n; }
    static Env env(S s, int h, int sures) {
        House x = s.houses.get(h);
        return new Env(x.pot.height, x.pot.tender, x.pot.water, x.degree[x.pot.thing], x.pot.thing, s.week, sures, lines(s, h));
    }
    static int law(S s, String word, Env e) {
        int v = switch (word) { case "grow" -> e.water - 5; case "lower" -> e.height / 10; default -> 10; };
        for (LawLine l : s.law) {
            if (l.word.equals(word) && (l.b == null || l.b.of(e))) { v = l.e.of(e); break; }
        }
        int lo = word.equals("grow") ? -99 : 0, hi = word.equals("lower") ? 100 : 99;
        return v < lo ? lo : v > hi ? hi : v;
    }
    static int draw(S s, int m) {
        s.state = s.state * 1664525 + 1013904223;
        return (int) (((s.state & 0xFFFFFFFFL) / 256) % m);
    }
    static void grow(S s, int h, int sures) {
        House x = s.houses.get(h);
        Env e = env(s, h, sures);
        int lower = law(s, "lower", e), grow = law(s, "grow", e);
        x.degree[x.pot.thing] = Math.max(0, x.degree[x.pot.thing] - lower);
        x.pot.height = Math.min(99, x.pot.height + grow);
        x.pot.water = 0;
        if (x.pot.height < 1) gone(s, h, 2);
    }

    /** A WEEK: the HOUSES that broke the law in it. */
    static List<Integer> week(S s, boolean draws) {
        for (Plan p : s.plan) {
            if (p.week != s.week) continue;
            switch (p.what) {
                case "pot" -> doPot(s, p.house, p.a, p.b);
                case "water" -> doWater(s, p.house, p.a);
                case "weed" -> doWeed(s, p.house);
                default -> s.houses.get(p.house).degree[p.a] = p.b;
            }
        }
        for (House x : s.houses) {
            for (Reason r : s.reasons) {
                if (r.n > 0 && x.sure().containsAll(r.from)) x.degree[r.thing] = Math.min(100, x.degree[r.thing] + r.n);
            }
        }
        int n = s.houses.size();
        for (int h = 0; h < n; h++) if (s.houses.get(h).pot != null) grow(s, h, s.houses.get(h).sure().size());
        if (draws && s.frost > 0 && draw(s, 1000) < s.frost) {
            for (int h = 0; h < n; h++) if (s.houses.get(h).pot != null && draw(s, 10) < s.houses.get(h).pot.tender) gone(s, h, 3);
        }
        if (draws && s.bees > 0) {
            List<Integer> tall = new ArrayList<>();
            for (int h = 0; h < n; h++) if (s.houses.get(h).pot != null && s.houses.get(h).pot.height >= 50) tall.add(h);
            for (int h : tall) {
                if (draw(s, 1000) >= s.bees) continue;
                int to = NONE;
                for (int g = n - 1; g >= 0; g--) if (s.line[h][g] && s.houses.get(g).pot == null) to = g;
                if (to == NONE) continue;
                int seed = law(s, "seed", env(s, h, s.houses.get(h).sure().size()));
                if (seed == 0) continue;
                Pot p = new Pot(), from = s.houses.get(h).pot;
                p.thing = from.thing; p.tender = from.tender; p.height = seed;
                s.houses.get(to).pot = p;
                write(s, 4, to, p.thing);
            }
        }
        List<Integer> over = new ArrayList<>();
        for (int h = 0; h < n; h++) {
            int k = s.houses.get(h).sure().size();
            if (k > s.most) { over.add(h); write(s, 5, h, k); }
        }
        s.breaches += over.size();
        s.week++;
        return over;
    }

    int weeks(int n) {
        if (!in(n, 1, 60) || s.week + n > 999) return NONE;
        int b = 0;
        for (int i = 0; i < n; i++) { keep(); b += week(s, true).size(); }
        return b;
    }

    int of(int h, int what) {
        if (!isHouse(h)) return -1000;
        House x = s.houses.get(h);
        Pot p = x.pot;
        switch (what) {
            case 0: return p == null ? NONE : p.thing;
            case 1: return p == null ? 0 : p.height;
            case 2: return p == null ? NONE : p.tender;
            case 3: return p == null ? 0 : p.water;
            case 4: return x.sureSet();
            case 5: { int set = 0; for (int g = 0; g < 8; g++) if (s.line[h][g]) set += 1 << g; return set; }
            case 6: case 7: case 8:
                return p == null ? -100 : law(s, what == 6 ? "grow" : what == 7 ? "lower" : "seed", env(s, h, x.sure().size()));
            default: return in(what, 10, 17) ? x.degree[what - 10] : -1000;
        }
    }

    int reason(int i, int what) {
        if (!in(i, 0, s.reasons.size() - 1) || !in(what, 0, 2)) return NONE;
        Reason r = s.reasons.get(i);
        int set = 0;
        for (int t : r.from) set += 1 << t;
        return what == 0 ? r.thing : what == 1 ? set : r.n;
    }
    int book(int i, int what) { return in(i, 0, s.book.size() - 1) && in(what, 0, 3) ? s.book.get(i)[what] : NONE; }

    int first(int n, int what) {
        if (!in(n, 1, 60) || !in(what, 0, 2)) return NONE;
        S d = s.copy();
        int h = NONE, w = NONE, all = 0;
        for (int i = 0; i < n; i++) {
            int now = d.week;
            List<Integer> over = week(d, false);
            if (!over.isEmpty() && h == NONE) { h = over.get(0); w = now; }
            all += over.size();
        }
        return what == 0 ? h : what == 1 ? w : all;
    }

    int gives(int what) {
        int n = s.houses.size();
        if (what != 0 && !in(what, 10, 9 + n)) return NONE;
        int[] ways = new int[n];
        if (!give(0, s.stock.clone(), ways, new HashSet<>())) return NONE;
        int all = 0;
        for (int w : ways) all += Integer.bitCount(w);
        return what == 0 ? all : ways[what - 10];
    }
    /** All sets of a HOUSE from the least on, and all that can follow; what failed is not tried again. */
    boolean give(int h, int[] stock, int[] ways, Set<String> failed) {
        if (h == s.houses.size()) return true;
        String key = h + Arrays.toString(stock);
        if (failed.contains(key)) return false;
        House x = s.houses.get(h);
        int need = Math.max(0, x.sure().size() - s.most);
        for (int set = 0; set < 256; set++) {
            if (Integer.bitCount(set) != need || (set & ~x.sureSet()) != 0) continue;
            int[] left = stock.clone();
            boolean ok = true;
            for (int t = 0; t < 8; t++) {
                if ((set >> t & 1) == 0) continue;
                if (--left[t] < 0) ok = false;
                for (Work w : s.works) if (w.house == h && w.sure && w.thing == t) ok = false;
            }
            ways[h] = set;
            if (ok && give(h + 1, left, ways, failed)) return true;
        }
        failed.add(key);
        return false;
    }

    int done() {
        int set = 0;
        for (int i = 0; i < s.works.size(); i++) {
            Work w = s.works.get(i);
            if (s.houses.get(w.house).sure().contains(w.thing) == w.sure) set += 1 << i;
        }
        return set;
    }

    int struck(int h, int what) {
        if (!isHouse(h) || !in(what, 0, 1)) return NONE;
        House x = s.houses.get(h);
        int bestSum = Integer.MAX_VALUE, best = 0;
        for (int set = 0; set < 256; set++) {
            if ((set & ~x.sureSet()) != 0) continue;
            boolean ok = true;
            for (Reason r : s.reasons) {
                if (r.n > 0) continue;
                int o = r.from.iterator().next();
                boolean one = x.sure().contains(r.thing) && (set >> r.thing & 1) == 0;
                boolean two = x.sure().contains(o) && (set >> o & 1) == 0;
                if (one && two) ok = false;
            }
            int sum = 0;
            for (int t = 0; t < 8; t++) if ((set >> t & 1) == 1) sum += x.degree[t];
            if (ok && sum < bestSum) { bestSum = sum; best = set; }
        }
        return what == 0 ? bestSum : best;
    }

    int down(int h, int t) {
        if (!isHouse(h) || !in(t, 0, 7) || !s.houses.get(h).sure().contains(t)) return NONE;
        List<Integer> sure = s.houses.get(h).sure();
        Set<Integer> stand = new HashSet<>();
        boolean more = true;
        while (more) {
            more = false;
            for (int u : sure) {
                if (u == t || stand.contains(u)) continue;
                boolean given = false, by = false;
                for (Reason r : s.reasons) {
                    if (r.n == 0 || r.thing != u) continue;
                    given = true;
                    if (stand.containsAll(r.from)) by = true;
                }
                if (!given || by) { stand.add(u); more = true; }
            }
        }
        int set = 0;
        for (int u : sure) if (u != t && !stand.contains(u)) set += 1 << u;
        return set;
    }

    int by(int h, int t) {
        if (!isHouse(h) || !in(t, 0, 7)) return NONE;
        int[] far = new int[8];
        Arrays.fill(far, NONE);
        Deque<Integer> q = new ArrayDeque<>();
        for (int g = 0; g < s.houses.size(); g++) {
            Pot p = s.houses.get(g).pot;
            if (p != null && p.thing == t) { far[g] = 0; q.add(g); }
        }
        while (!q.isEmpty()) {
            int g = q.poll();
            for (int k = 0; k < 8; k++) if (s.line[g][k] && far[k] == NONE) { far[k] = far[g] + 1; q.add(k); }
        }
        return far[h];
    }

    int part(int a, int b) {
        if (!isHouse(a) || !isHouse(b) || a == b) return NONE;
        int[][] cap = new int[8][8];
        for (int i = 0; i < 8; i++) for (int j = 0; j < 8; j++) cap[i][j] = s.line[i][j] ? 1 : 0;
        int flow = 0;
        while (push(cap, a, b, new boolean[8])) flow++;
        return flow;
    }
    static boolean push(int[][] cap, int a, int b, boolean[] seen) {
        if (a == b) return true;
        seen[a] = true;
        for (int k = 0; k < 8; k++) {
            if (!seen[k] && cap[a][k] > 0 && push(cap, k, b, seen)) { cap[a][k]--; cap[k][a]++; return true; }
        }
        return false;
    }

    int talk(int h, int t, int how) {
        if (h == NONE) { s.talks = new ArrayList<>(); return 0; }
        if (!isHouse(h) || !in(t, 0, 7) || !in(how, 0, 1) || s.talks.size() == 12) return NONE;
        s.talks.add(new int[] {h, t, how});
        return s.talks.size();
    }

    List<Integer> fitting(int h, int e) {
        List<Integer> l = new ArrayList<>();
        for (int set = 0; set < 256; set++) {
            int errors = 0;
            for (int[] k : s.talks) {
                boolean argues = (set >> k[1] & 1) == 0;
                if (k[0] == h && argues != (k[2] == 1)) errors++;
            }
            if (Integer.bitCount(set) <= s.most && errors <= e) l.add(set);
        }
        return l;
    }
    int fits(int h, int e) { return isHouse(h) && in(e, 0, 3) ? fitting(h, e).size() : NONE; }
    int ask(int h, int e) {
        if (!isHouse(h) || !in(e, 0, 3)) return NONE;
        List<Integer> l = fitting(h, e);
        if (l.size() < 2) return NONE;
        int best = NONE, least = 1000;
        for (int t = 0; t < 8; t++) {
            int with = 0;
            for (int set : l) with += set >> t & 1;
            int g = Math.max(with, l.size() - with);
            if (g < least) { least = g; best = t; }
        }
        return best;
    }

    int waters(int h, int n, int what) {
        if (!isHouse(h) || !in(n, 1, 30) || !in(what, 0, 1) || s.houses.get(h).pot == null) return NONE;
        List<Integer> ok = new ArrayList<>();
        for (int w = 0; w <= 40; w++) {
            S d = s.copy();
            House x = d.houses.get(h);
            int sures = x.sure().size();
            for (int i = 0; i < n && x.pot != null; i++) {
                x.pot.water = Math.min(99, x.pot.water + w);
                grow(d, h, sures);
                d.week++;
            }
            if (x.pot != null) ok.add(w);
        }
        return ok.isEmpty() ? NONE : ok.get(what == 0 ? 0 : ok.size() - 1);
    }

    List<Integer> heights() { List<Integer> l = new ArrayList<>(); for (House h : s.houses) l.add(h.pot == null ? 0 : h.pot.height); return l; }
    int game(int what) {
        if (!in(what, 0, 1)) return NONE;
        List<Integer> l = heights();
        for (int h = 0; h < l.size(); h++) {
            for (int left = 0; left < l.get(h); left++) {
                int x = left;
                for (int g = 0; g < l.size(); g++) if (g != h) x ^= l.get(g);
                if (x == 0) return what == 0 ? h : left;
            }
        }
        return NONE;
    }

    int greenhouses(int c) {
        if (!in(c, 1, 999)) return NONE;
        List<Integer> l = heights();
        l.removeIf(x -> x == 0);
        for (int x : l) if (x > c) return NONE;
        return pack(l, 0, new int[8], 0, c);
    }
    static int pack(List<Integer> l, int i, int[] full, int used, int c) {
        if (i == l.size()) return used;
        int best = 99;
        for (int k = 0; k <= used && k < 8; k++) {
            if (full[k] + l.get(i) > c) continue;
            full[k] += l.get(i);
            best = Math.min(best, pack(l, i + 1, full, Math.max(used, k + 1), c));
            full[k] -= l.get(i);
        }
        return best;
    }

    boolean undo() {
        if (undo.isEmpty()) return false;
        S was = undo.remove(undo.size() - 1);
        was.law = s.law; was.works = s.works; was.talks = s.talks;
        s = was;
        return true;
    }
    boolean image(boolean take) {
        if (take) { image = s.copy(); return true; }
        if (image == null) return false;
        s = image.copy();
        undo.clear();
        return true;
    }

    int look(int what) {
        switch (what) {
            case 0: return s.houses.size();
            case 1: return s.week;
            case 2: return s.breaches;
            case 3: { int n = 0; for (House h : s.houses) if (h.pot != null) n++; return n; }
            case 4: return s.book.size();
            case 5: return s.state;
            case 6: return s.reasons.size();
            case 7: return s.law.size();
            case 8: return s.works.size();
            case 9: return s.plan.size();
            case 10: return s.talks.size();
            case 11: return undo.size();
            case 12: return s.most;
            case 13: return s.frost;
            case 14: return s.bees;
            default: return in(what, 20, 27) ? s.stock[what - 20] : NONE;
        }
    }
}
