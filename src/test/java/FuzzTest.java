import java.util.Random;

/** The same drawn calls on the class and on the model: every answer must be alike, and nothing may be thrown. */
public final class FuzzTest {
    private static final int RUNS = Integer.getInteger("runs", 1500);
    private static final int CALLS = 500;
    private final Random r;
    private final PlantedDoubts x = new PlantedDoubts();
    private final Model m = new Model();
    private final StringBuilder log = new StringBuilder();
    private int wrong = 0;

    private FuzzTest(long seed) { r = new Random(seed); }

    public static void main(String[] args) {
        for (int i = 0; i < RUNS; i++) {
            FuzzTest f = new FuzzTest(i * 7919L + 13);
            f.run();
            if (f.wrong > 0) {
                System.out.println("drawn run " + i + ":\n" + f.log);
                System.exit(1);
            }
        }
        System.out.println(RUNS + " drawn runs alike");
    }

    private void same(String call, long got, long want) {
        log.append(call).append(" -> ").append(got);
        if (got != want) { wrong++; log.append(" WRONG, due is ").append(want); }
        log.append('\n');
    }
    private void same(String call, boolean got, boolean want) { same(call, got ? 1 : 0, want ? 1 : 0); }

    /** Mostly within 0 .. n - 1, at times just outside or far away. */
    private int n(int n) {
        int k = r.nextInt(40);
        if (k == 0) return -1;
        if (k == 1) return n;
        if (k == 2) return r.nextInt();
        return r.nextInt(n);
    }
    private int h() { return m.s.houses.isEmpty() ? n(8) : n(m.s.houses.size()); }

    private void run() {
        int houses = r.nextInt(9);
        for (int i = 0; i < houses; i++) same("house()", x.house(), m.house());
        int style = r.nextInt(4);
        for (int i = 0; i < CALLS && wrong == 0; i++) {
            if (r.nextInt(3) == 0) thought(); else deed(style);
            if (r.nextInt(10) == 0) looks();
        }
        if (wrong == 0) looks();
    }

    private void deed(int style) {
        int k = r.nextInt(100);
        int a = h(), b = h(), t = n(8), v;
        if (k < 2) { v = r.nextInt(); same("state(" + v + ")", x.state(v), m.state(v)); }
        else if (k < 4) same("house()", x.house(), m.house());
        else if (k < 12) {
            int what = n(4), who = n(8);
            v = what == 0 ? n(9) : what == 3 ? n(6) : style == 0 ? 0 : n(1001);
            same("set(" + what + ", " + who + ", " + v + ")", x.set(what, who, v), m.set(what, who, v));
        } else if (k < 22) {
            boolean is = r.nextInt(3) > 0;
            same("line(" + a + ", " + b + ", " + is + ")", x.line(a, b, is), m.line(a, b, is));
        } else if (k < 32) text();
        else if (k < 45) { int te = n(10); same("pot(" + a + ", " + t + ", " + te + ")", x.pot(a, t, te), m.pot(a, t, te)); }
        else if (k < 55) { v = 1 + n(99); same("water(" + a + ", " + v + ")", x.water(a, v), m.water(a, v)); }
        else if (k < 58) same("weed(" + a + ")", x.weed(a), m.weed(a));
        else if (k < 75) {
            v = r.nextInt(3) > 0 ? 88 + n(13) : n(101);
            same("tell(" + a + ", " + t + ", " + v + ")", x.tell(a, t, v), m.tell(a, t, v));
        } else if (k < 86) { v = r.nextInt(8) == 0 ? n(62) : 1 + r.nextInt(3); same("weeks(" + v + ")", x.weeks(v), m.weeks(v)); }
        else if (k < 92) {
            int house = r.nextInt(30) == 0 ? -1 : a, how = n(2);
            same("talk(" + house + ", " + t + ", " + how + ")", x.talk(house, t, how), m.talk(house, t, how));
        } else if (k < 97) same("undo()", x.undo(), m.undo());
        else { boolean take = r.nextBoolean(); same("image(" + take + ")", x.image(take), m.image(take)); }
    }

    private void thought() {
        int a = h(), b = h(), t = n(8), e = n(4), v;
        switch (r.nextInt(15)) {
            case 0: v = n(20); same("of(" + a + ", " + v + ")", x.of(a, v), m.of(a, v)); break;
            case 1: v = n(3); e = n(16); same("reason(" + e + ", " + v + ")", x.reason(e, v), m.reason(e, v)); break;
            case 2: v = n(151); e = n(4); same("book(" + v + ", " + e + ")", x.book(v, e), m.book(v, e)); break;
            case 3: v = n(61); e = n(3); same("first(" + v + ", " + e + ")", x.first(v, e), m.first(v, e)); break;
            case 4: v = r.nextBoolean() ? 0 : 10 + n(8); same("gives(" + v + ")", x.gives(v), m.gives(v)); break;
            case 5: same("done()", x.done(), m.done()); break;
            case 6: v = n(2); same("struck(" + a + ", " + v + ")", x.struck(a, v), m.struck(a, v)); break;
            case 7: same("down(" + a + ", " + t + ")", x.down(a, t), m.down(a, t)); break;
            case 8: same("by(" + a + ", " + t + ")", x.by(a, t), m.by(a, t)); break;
            case 9: same("part(" + a + ", " + b + ")", x.part(a, b), m.part(a, b)); break;
            case 10: same("fits(" + a + ", " + e + ")", x.fits(a, e), m.fits(a, e)); break;
            case 11: same("ask(" + a + ", " + e + ")", x.ask(a, e), m.ask(a, e)); break;
            case 12: v = n(31); e = n(2); same("waters(" + a + ", " + v + ", " + e + ")", x.waters(a, v, e), m.waters(a, v, e)); break;
            case 13: v = n(2); same("game(" + v + ")", x.game(v), m.game(v)); break;
            default: v = r.nextInt(4) == 0 ? n(1001) : 1 + r.nextInt(200); same("greenhouses(" + v + ")", x.greenhouses(v), m.greenhouses(v));
        }
    }

    private void looks() {
        for (int i = -1; i < 30; i++) same("look(" + i + ")", x.look(i), m.look(i));
        for (int h = 0; h < m.s.houses.size(); h++) for (int i = 0; i < 18; i++) same("of(" + h + ", " + i + ")", x.of(h, i), m.of(h, i));
        for (int i = 0; i <= m.s.book.size(); i++) for (int w = 0; w < 4; w++) same("book(" + i + ", " + w + ")", x.book(i, w), m.book(i, w));
        for (int i = 0; i <= m.s.reasons.size(); i++) for (int w = 0; w < 3; w++) same("reason(" + i + ", " + w + ")", x.reason(i, w), m.reason(i, w));
        for (int w = -1; w < 3; w++) same("fault(" + w + ")", x.fault(w), m.fault(w));
        for (int w = 0; w < 9; w++) { int k = w == 8 ? 0 : 10 + w; same("gives(" + k + ")", x.gives(k), m.gives(k)); }
    }

    // ---- texts

    private void text() {
        int k = r.nextInt(40) == 0 ? n(4) : r.nextInt(4);
        StringBuilder t = new StringBuilder();
        int most = r.nextInt(6) == 0 ? 18 : 1 + r.nextInt(5);
        for (int i = 0; i < most && t.length() < 380; i++) {
            switch (k) {
                case 0: reason(t); break;
                case 1: law(t); break;
                case 2: work(t); break;
                default: plan(t); break;
            }
        }
        if (r.nextInt(3) == 0 && t.length() > 0) spoil(t);
        String s = t.length() > 400 ? t.substring(0, 400) : t.toString();
        log.append("\"").append(s).append("\"\n");
        for (int i = 0; i < s.length(); i += 20) {
            int[] w = new int[5];
            for (int j = 0; j < 20; j++) w[j / 4] = w[j / 4] << 8 | (i + j < s.length() ? s.charAt(i + j) : 32);
            same("feed()", x.feed(w[0], w[1], w[2], w[3], w[4]), m.feed(w));
        }
        if (r.nextInt(15) == 0) same("feed()", x.feed(1, 2, 3, 4, 5), m.feed(1, 2, 3, 4, 5));
        if (r.nextInt(15) == 0) same("end(-1)", x.end(-1), m.end(-1));
        if (r.nextInt(15) == 0) same("end(401)", x.end(401), m.end(401));
        same("end(" + s.length() + ")", x.end(s.length()), m.end(s.length()));
        same("text(" + k + ")", x.text(k), m.text(k));
        for (int w = 0; w < 2; w++) same("fault(" + w + ")", x.fault(w), m.fault(w));
    }

    private void spoil(StringBuilder t) {
        String[] bits = {";", "0", "8", " and ", " not ", "(", ")", " or ", "9999", "12345", "/0", "/", "*", "+", "-", "<", "=", ">", " when ",
            "x", "\n", "\t", " from ", " gives ", " clashes ", "grow ", "lower ", "seed ", "on ", "work ", " tender ", " to ", "\u00e9", "G", ".", "1000", "101"};
        int times = 1 + r.nextInt(3);
        for (int i = 0; i < times && t.length() > 0; i++) {
            int at = r.nextInt(t.length());
            int how = r.nextInt(4);
            if (how == 0) t.deleteCharAt(at);
            else if (how == 1) t.insert(at, bits[r.nextInt(bits.length)]);
            else if (how == 2) t.setLength(at);
            else t.setCharAt(at, (char) r.nextInt(256));
        }
    }

    private String gap() { int k = r.nextInt(10); return k == 0 ? "\n" : k == 1 ? "  " : " "; }
    private String maybe() { return r.nextInt(4) == 0 ? gap() : ""; }
    private int hh() { return r.nextInt(60) == 0 ? 8 : m.s.houses.isEmpty() ? 0 : r.nextInt(m.s.houses.size()); }
    private int tt() { return r.nextInt(60) == 0 ? 8 : r.nextInt(8); }

    private void reason(StringBuilder t) {
        int a = tt(), b = (a + 1 + r.nextInt(r.nextInt(20) == 0 ? 8 : 7)) % 8;
        t.append(maybe()).append(a);
        if (r.nextInt(3) == 0) t.append(gap()).append("clashes").append(gap()).append(b);
        else {
            t.append(gap()).append("from ").append(b);
            for (int i = r.nextInt(3); i > 0; i--) t.append(" and").append(maybe()).append((a + 1 + r.nextInt(r.nextInt(20) == 0 ? 8 : 7)) % 8);
            t.append(maybe()).append("gives").append(gap()).append(r.nextInt(40) == 0 ? 0 : 1 + r.nextInt(r.nextInt(40) == 0 ? 110 : 60));
        }
        t.append(maybe()).append(';');
    }

    private void law(StringBuilder t) {
        t.append(new String[] {"grow", "lower", "seed"}[r.nextInt(3)]).append(gap()).append(sum());
        if (r.nextInt(4) > 0) t.append(gap()).append("when").append(gap()).append(or(0));
        t.append(maybe()).append(';');
    }
    private String or(int d) { String s = and(d); for (int i = r.nextInt(5) - 2; i > 0; i--) s += " or " + and(d); return s; }
    private String and(int d) { String s = cond(d); for (int i = r.nextInt(5) - 2; i > 0; i--) s += " and " + cond(d); return s; }
    private String cond(int d) {
        int k = r.nextInt(8);
        if (d < 10 && k < 2) return "not " + cond(d + 1);
        if (d < 10 && k < 4) return "(" + or(d + 1) + ")";
        if (d < 10 && r.nextInt(30) == 0) return "((((not ((" + or(d + 7) + "))))))";
        return sum() + maybe() + "<=>".charAt(r.nextInt(3)) + maybe() + sum();
    }
    private String sum() { String s = product(); for (int i = r.nextInt(5) - 2; i > 0; i--) s += maybe() + (r.nextBoolean() ? "+" : "-") + product(); return s; }
    private String product() {
        String s = unit();
        for (int i = r.nextInt(6) - 3; i > 0; i--) s += r.nextBoolean() ? "*" + unit() : "/" + (r.nextInt(40) == 0 ? 0 : 1 + r.nextInt(20));
        return s;
    }
    private String unit() {
        int k = r.nextInt(14);
        if (k == 0) return "" + r.nextInt(10000);
        if (k < 6) return "" + r.nextInt(100);
        return new String[] {"height", "tender", "water", "degree", "thing", "week", "sures", "lines"}[r.nextInt(8)];
    }

    private void work(StringBuilder t) {
        t.append("work").append(gap()).append(hh()).append(r.nextBoolean() ? " sure " : " doubts ").append(tt()).append(maybe()).append(';');
    }

    private void plan(StringBuilder t) {
        int week = r.nextInt(50) == 0 ? 995 + r.nextInt(8) : m.s.week + r.nextInt(4);
        t.append("on ").append(week).append(gap());
        switch (r.nextInt(4)) {
            case 0: t.append("pot ").append(hh()).append(" of ").append(tt()).append(" tender ").append(r.nextInt(r.nextInt(20) == 0 ? 12 : 10)); break;
            case 1: t.append("water ").append(hh()).append(" by ").append(r.nextInt(30) == 0 ? 0 : 1 + r.nextInt(r.nextInt(20) == 0 ? 110 : 99)); break;
            case 2: t.append("weed ").append(hh()); break;
            default: t.append("tell ").append(hh()).append(" of ").append(tt()).append(" to ").append(r.nextInt(r.nextInt(20) == 0 ? 110 : 101));
        }
        t.append(';');
    }
}
