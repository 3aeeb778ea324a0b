/** The edges of what is told, of POTS, WEEKS and THE BOOK, sentence by sentence: promises 1 to 5, 10 to 15, 17 and Terms 1 and 3. */
public final class WeekEdgesTest extends Edges {
    private static final int POTTED = 0, WEEDED = 1, WILTED = 2, BY_FROST = 3, BY_BEES = 4, A_BREACH = 5;

    public static void main(String[] args) {
        atFirst();
        drawsAndSettings();
        linesBetween();
        deeds();
        planOfThisWeek();
        whatFollows();
        potsGrow();
        potsWilt();
        frost();
        tender();
        frostGoesHouseByHouse();
        bees();
        beesChoose();
        seeds();
        inspector();
        weeksGoBy();
        bookIsFull();
        bookSays();
        ofAHouse();
        sure();
        manyCalls();
        finish();
    }

    private static void atFirst() {
        sentence("1: No houses");
        PlantedDoubts x = with(0);
        due("of(0, 0)", NONE - 999, x.of(0, 0));
        no("line", x.line(0, 1, true));
        no("pot", x.pot(0, 0, 0));
        no("tell", x.tell(0, 0, 0));
        due("a week", 0, x.weeks(1));
        sentence("Terms: at first");
        int[] looks = {0, 0, 0, 0, 0, 0, 0, 0, 0, 0, 0, 0, 3, 0, 0};
        PlantedDoubts y = with(0);
        for (int w = 0; w < 15; w++) due("look(" + w + ")", looks[w], y.look(w));
        for (int t = 0; t < 8; t++) due("STOCK", 0, y.look(20 + t));
        sentence("Terms 1: HOUSES 0 .. 7 as they come: of each THING a DEGREE .. (50 at first) .. A POT or none (at first) .. LINES .. (not at first)");
        for (int h = 0; h < 8; h++) {
            due("its number", h, y.house());
            due("how many", h + 1, y.look(0));
            int[] of = {NONE, 0, NONE, 0, 0, 0, NONE - 99, NONE - 99, NONE - 99, NONE - 999};
            for (int w = 0; w < 10; w++) due("of(" + h + ", " + w + ")", of[w], y.of(h, w));
            for (int t = 0; t < 8; t++) due("DEGREE", 50, y.of(h, 10 + t));
            due("the next is not there", NONE - 999, y.of(h + 1, 10));
        }
        due("the ninth", NONE, y.house());
        due("how many", 8, y.look(0));
    }

    private static void drawsAndSettings() {
        sentence("2: STATE is told: what it was; 33: STATE as it is");
        PlantedDoubts x = with(0);
        int[] states = {MAX, MIN, -1, 0, 1};
        int was = 0;
        for (int s : states) {
            due("what it was", was, x.state(s));
            due("as it is", s, x.look(5));
            was = s;
        }
        sentence("Terms: it becomes 1664525 times itself + 1013904223 (ints, which wrap)");
        x.set(1, 0, 1);
        for (int s : states) {
            x.state(s);
            x.weeks(1);
            due("after one DRAW", (int) (1664525L * s + 1013904223L), x.look(5));
        }
        sentence("4: MOST 0 .. 8, FROST, BEES 0 .. 1000 (who not asked), STOCK of a THING 0 .. 5");
        int[] most = {8, 1000, 1000};
        for (int what = 0; what < 3; what++) {
            for (int who : new int[] {MIN, -1, 0, 7, 8, MAX}) {
                for (int v : new int[] {0, 1, most[what] - 1, most[what]}) {
                    yes("set(" + what + ", " + who + ", " + v + ")", x.set(what, who, v));
                    due("it is that", v, x.look(12 + what));
                }
            }
        }
        PlantedDoubts y = with(0);
        for (int t = 0; t < 8; t++) {
            for (int v : new int[] {0, 1, 4, 5}) {
                yes("STOCK", y.set(3, t, v));
                due("it is that", v, y.look(20 + t));
            }
            if (t < 7) due("the next has none yet", 0, y.look(21 + t));
        }
    }

    private static void linesBetween() {
        sentence("5: A LINE between two HOUSES, or not");
        PlantedDoubts x = with(8);
        for (int a = 0; a < 8; a++) {
            for (int b = a + 1; b < 8; b++) {
                yes("told from the one", x.line(a, b, true));
                due("the one", 1, x.of(a, 5) >> b & 1);
                due("the other", 1, x.of(b, 5) >> a & 1);
            }
        }
        for (int h = 0; h < 8; h++) due("to all others", 255 & ~(1 << h), x.of(h, 5));
        yes("again", x.line(7, 0, true));
        due("as it was", 127, x.of(7, 5));
        yes("not, told from the other", x.line(7, 0, false));
        due("the one", 126, x.of(7, 5));
        due("the other", 126, x.of(0, 5));
        yes("not again", x.line(0, 7, false));
        due("as it was", 126, x.of(7, 5));
    }

    private static void deeds() {
        sentence("Terms 3: To POT a doubt: where there is no POT: HEIGHT 10, WATER 0");
        for (int thing : new int[] {0, 7}) {
            for (int tender : new int[] {0, 9}) {
                for (int house : new int[] {0, 7}) {
                    PlantedDoubts x = with(8);
                    yes("pot", x.pot(house, thing, tender));
                    int[] of = {thing, 10, tender, 0};
                    for (int w = 0; w < 4; w++) due("of(" + house + ", " + w + ")", of[w], x.of(house, w));
                    no("where there is one", x.pot(house, thing, tender));
                    due("pots", 1, x.look(3));
                    x.water(house, 9);
                    yes("weed", x.weed(house));
                    no("where there is none", x.weed(house));
                    no("water where there is none", x.water(house, 1));
                    yes("anew", x.pot(house, 3, 5));
                    due("WATER 0", 0, x.of(house, 3));
                }
            }
        }
        sentence("Terms 3: To WATER it by n: WATER n more (99 at most)");
        int[][] waters = {{1, 0, 1}, {99, 0, 99}, {98, 1, 99}, {98, 2, 99}, {97, 1, 98}, {99, 1, 99}, {99, 99, 99}};
        for (int[] w : waters) {
            PlantedDoubts x = with(1);
            x.pot(0, 0, 0);
            yes("water by " + w[0], x.water(0, w[0]));
            if (w[1] > 0) yes("water by " + w[1], x.water(0, w[1]));
            due("WATER", w[2], x.of(0, 3));
        }
        sentence("Terms 3: To WEED: the POT is gone; To TELL: a DEGREE is that");
        PlantedDoubts y = with(8);
        y.pot(7, 7, 9);
        y.tell(7, 7, 100);
        y.weed(7);
        int[] of = {NONE, 0, NONE, 0};
        for (int w = 0; w < 4; w++) due("of(7, " + w + ")", of[w], y.of(7, w));
        due("the DEGREE stays", 100, y.of(7, 17));
        for (int d : new int[] {0, 1, 99, 100}) {
            yes("tell to " + d, y.tell(7, 7, d));
            due("DEGREE", d, y.of(7, 17));
            yes("tell to " + d, y.tell(0, 0, d));
            due("DEGREE", d, y.of(0, 10));
        }
        due("of another THING", 50, y.of(7, 16));
        due("of another HOUSE", 50, y.of(6, 17));
    }

    private static void planOfThisWeek() {
        sentence("Terms 3: (a) Line by line of A PLAN for this WEEK: what can be done");
        PlantedDoubts x = with(2);
        say(x, 1, "grow 0;lower 0;");
        say(x, 3, "on 0 weed 0;on 0 water 0 by 5;on 0 pot 0 of 3 tender 9;on 0 pot 0 of 4 tender 1;on 1 pot 1 of 7 tender 0;on 1 weed 0;on 1 pot 0 of 5 tender 2;on 998 tell 1 of 7 to 100;on 999 tell 1 of 7 to 0;");
        x.weeks(1);
        due("potted by the third line", 3, x.of(0, 0));
        due("its tender", 9, x.of(0, 2));
        due("nothing for the next week yet", NONE, x.of(1, 0));
        due("one line of the book alone", 1, x.look(4));
        x.weeks(1);
        due("weeded and potted anew", 5, x.of(0, 0));
        due("its tender", 2, x.of(0, 2));
        due("the last HOUSE", 7, x.of(1, 0));
        due("what was done", 4, x.look(4));
        due("and when", 1, x.book(3, 0));
        toWeek(x, 998);
        due("not yet", 50, x.of(1, 17));
        x.weeks(1);
        due("in WEEK 998", 100, x.of(1, 17));
        due("WEEK", 999, x.look(1));
        sentence("Terms 3: (a) To WATER .. (99 at most)");
        PlantedDoubts y = with(1);
        say(y, 1, "grow water-50;");
        y.pot(0, 0, 0);
        y.water(0, 60);
        say(y, 3, "on 0 water 0 by 38;on 1 water 0 by 1;on 1 water 0 by 99;");
        y.weeks(1);
        due("98 of water", 58, y.of(0, 1));
        y.weeks(1);
        due("99 of water at most", 99, y.of(0, 1));
        due("WATER is 0 then", 0, y.of(0, 3));
    }

    private static void whatFollows() {
        sentence("Terms 3: (b) if it is SURE of all that it is from .. DEGREE of the THING is N more (100 at most)");
        int[][] gives = {{90, 50, 1, 51}, {90, 50, 50, 100}, {90, 50, 51, 100}, {90, 0, 100, 100}, {90, 100, 1, 100}, {89, 50, 1, 50}, {100, 0, 1, 1}};
        for (int[] g : gives) {
            PlantedDoubts x = with(2);
            say(x, 0, "7 from 0 gives " + g[2] + ";");
            x.tell(1, 0, g[0]);
            x.tell(1, 7, g[1]);
            x.weeks(1);
            due("from " + g[0] + ", " + g[1] + " and " + g[2], g[3], x.of(1, 17));
            due("of the HOUSE alone", 50, x.of(0, 17));
        }
        PlantedDoubts y = with(1);
        say(y, 0, "7 from 0 and 1 and 2 gives 10;6 clashes 0;");
        y.tell(0, 0, 90);
        y.tell(0, 1, 90);
        y.tell(0, 2, 89);
        y.weeks(1);
        due("one is missing", 50, y.of(0, 17));
        y.tell(0, 2, 90);
        y.weeks(1);
        due("all are there", 60, y.of(0, 17));
        due("a clash gives nothing", 50, y.of(0, 16));
        sentence("Terms 3: (b) .. (as the lines ahead left it)");
        PlantedDoubts z = with(1);
        say(z, 0, "3 from 2 gives 40;1 from 0 gives 39;2 from 1 gives 40;1 from 0 gives 1;2 from 1 gives 39;4 from 2 gives 9;2 from 1 gives 1;5 from 2 gives 8;");
        z.tell(0, 0, 90);
        z.weeks(1);
        due("89 and 1", 90, z.of(0, 11));
        due("39 and 1, not 40", 90, z.of(0, 12));
        due("a line behind does nothing for one ahead", 50, z.of(0, 13));
        due("nor when it is 89", 50, z.of(0, 14));
        due("a line ahead does", 58, z.of(0, 15));
        sentence("Terms 3: A WEEK. (a) .. (b) .. (c)");
        PlantedDoubts w = with(1);
        say(w, 0, "1 from 0 gives 40;");
        say(w, 3, "on 0 tell 0 of 0 to 90;on 0 pot 0 of 0 tender 0;");
        w.weeks(1);
        due("(b) behind (a), ahead of (c)", 90, w.of(0, 11));
        due("(c)", 89, w.of(0, 10));
        w.weeks(1);
        due("no longer", 90, w.of(0, 11));
    }

    private static PlantedDoubts grown(int height, int water, int degree, String law) {
        PlantedDoubts x = with(1);
        heights(x, height);
        x.tell(0, 0, degree);
        if (water > 0) x.water(0, water);
        say(x, 1, law);
        x.weeks(1);
        return x;
    }

    private static void potsGrow() {
        sentence("Terms 3: (c) DEGREE of its THING is lower less (0 at least)");
        int[][] lower = {{50, 0, 50}, {50, 49, 1}, {50, 50, 0}, {50, 51, 0}, {100, 100, 0}, {0, 100, 0}, {100, 99, 1}};
        for (int[] l : lower) {
            PlantedDoubts x = grown(10, 0, l[0], "grow 0;lower " + l[1] + ";");
            due(l[0] + " less " + l[1], l[2], x.of(0, 10));
            due("of another THING", 50, x.of(0, 11));
        }
        sentence("Terms 3: (c) HEIGHT is grow more (99 at most); WATER is 0");
        int[][] grow = {{10, 88, 98}, {10, 89, 99}, {10, 90, 99}, {99, 99, 99}, {99, 0, 99}, {1, 0, 1}, {1, 99, 99}};
        for (int[] g : grow) {
            PlantedDoubts x = grown(g[0], 30, 50, "grow " + g[1] + ";");
            due(g[0] + " and " + g[1], g[2], x.of(0, 1));
            due("WATER", 0, x.of(0, 3));
        }
        sentence("Terms 3: (c) HOUSE by HOUSE with a POT (all asked ahead of it, of that POT)");
        PlantedDoubts a = grown(20, 7, 90, "lower height;grow degree-80;");
        due("lower, asked ahead of HEIGHT", 70, a.of(0, 10));
        due("grow, asked ahead of DEGREE", 30, a.of(0, 1));
        PlantedDoubts b = grown(20, 7, 90, "lower 1;grow 5 when sures=1 and water=7 and degree=90 and week=1;grow 6;");
        due("sures, water, degree, week as they were", 25, b.of(0, 1));
        PlantedDoubts c = with(2);
        c.pot(0, 0, 0);
        c.pot(1, 1, 0);
        c.water(1, 99);
        c.weeks(1);
        due("each of its own POT", 5, c.of(0, 1));
        due("each of its own POT", 99, c.of(1, 1));
    }

    private static void potsWilt() {
        sentence("Terms 3: (c) with HEIGHT below 1 the POT is gone");
        int[][] wilts = {{10, 8, 2}, {10, 9, 1}, {10, 10, 0}, {10, 11, 0}, {99, 98, 1}, {99, 99, 0}, {1, 0, 1}, {1, 1, 0}, {1, 99, 0}};
        for (int[] w : wilts) {
            PlantedDoubts x = grown(w[0], 9, 50, "grow 0-" + w[1] + ";lower 3;");
            due(w[0] + " less " + w[1], w[2], x.of(0, 1));
            due("its THING", w[2] > 0 ? 0 : NONE, x.of(0, 0));
            due("its TENDER", w[2] > 0 ? 0 : NONE, x.of(0, 2));
            due("its WATER", 0, x.of(0, 3));
            due("lines of the book", w[2] > 0 ? 1 : 2, x.look(4));
            due("lowered all the same", 47, x.of(0, 10));
        }
    }

    /** A STATE whose DRAWS are these, each told ahead of its m; the first one makes STATE below 0, or not. */
    private static int stateFor(boolean below, int... drawsAndM) {
        for (int s = 0; ; s++) {
            boolean so = after(s, 1) < 0 == below;
            for (int i = 0; i < drawsAndM.length && so; i += 2) so = drawn(s, i / 2 + 1, drawsAndM[i + 1]) == drawsAndM[i];
            if (so) return s;
        }
    }

    private static void frost() {
        sentence("Terms 3: (d) If FROST is above 0, a DRAW of 1000: below FROST HOUSE by HOUSE with a POT a DRAW of 10");
        PlantedDoubts none = with(1);
        none.pot(0, 0, 9);
        none.state(7);
        none.weeks(1);
        due("FROST 0: no DRAW", 7, none.look(5));
        int[][] frosts = {{1, 0, 1}, {1, 1, 0}, {2, 1, 1}, {500, 499, 1}, {500, 500, 0}, {999, 998, 1}, {999, 999, 0}, {1000, 999, 1}, {1000, 0, 1}};
        for (int[] f : frosts) {
            for (boolean below : new boolean[] {false, true}) {
                int s = stateFor(below, f[1], 1000, 0, 10);
                PlantedDoubts x = with(1);
                say(x, 1, "grow 0;");
                x.set(1, 0, f[0]);
                x.pot(0, 6, 1);
                x.state(s);
                x.weeks(1);
                due("FROST " + f[0] + ", a DRAW of " + f[1], f[2] == 1 ? NONE : 6, x.of(0, 0));
                due("its DRAWS", after(s, f[2] == 1 ? 2 : 1), x.look(5));
                due("by frost", f[2] == 1 ? BY_FROST : NONE, x.book(1, 1));
            }
        }
    }

    private static void tender() {
        sentence("Terms 3: (d) a DRAW of 10: below TENDER the POT is gone");
        int[][] tenders = {{0, 0, 0}, {1, 0, 1}, {1, 1, 0}, {5, 4, 1}, {5, 5, 0}, {9, 8, 1}, {9, 9, 0}, {0, 9, 0}};
        for (int[] t : tenders) {
            for (boolean below : new boolean[] {false, true}) {
                int s = stateFor(below, 3, 1000, t[1], 10);
                PlantedDoubts x = with(1);
                say(x, 1, "grow 0;");
                x.set(1, 0, 1000);
                x.pot(0, 6, t[0]);
                x.state(s);
                x.weeks(1);
                due("TENDER " + t[0] + ", a DRAW of " + t[1], t[2] == 1 ? NONE : 6, x.of(0, 0));
                due("a DRAW all the same", after(s, 2), x.look(5));
            }
        }
    }

    private static void frostGoesHouseByHouse() {
        sentence("Terms 3: (d) HOUSE by HOUSE with a POT a DRAW of 10");
        int s = stateFor(false, 5, 1000, 3, 10, 8, 10);
        PlantedDoubts x = with(4);
        say(x, 1, "grow 0-99 when thing=2;grow 1;");
        x.pot(0, 2, 9);
        x.pot(1, 5, 4);
        x.pot(3, 6, 8);
        x.set(1, 0, 6);
        x.state(s);
        x.weeks(1);
        due("one that wilted draws not", after(s, 3), x.look(5));
        due("3 is below 4", NONE, x.of(1, 0));
        due("8 is not below 8", 6, x.of(3, 0));
        int[] what = {POTTED, POTTED, POTTED, WILTED, BY_FROST};
        for (int i = 0; i < 5; i++) due("what", what[i], x.book(i, 1));
        due("no more", 5, x.look(4));
        sentence("Terms 3: (d) If FROST is above 0, a DRAW of 1000");
        PlantedDoubts y = with(0);
        y.set(1, 0, 1000);
        y.weeks(3);
        due("without HOUSES too", after(0, 3), y.look(5));
        PlantedDoubts z = with(8);
        z.set(1, 0, 1000);
        z.weeks(1);
        due("without POTS too", after(0, 1), z.look(5));
    }

    /** Three HOUSES in a row, a POT of THING 0 in the first, so high behind (c), BEES and STATE as told, one WEEK gone by. */
    private static PlantedDoubts flown(int height, int bees, int state, String seed) {
        PlantedDoubts x = with(3);
        x.line(0, 1, true);
        x.line(1, 2, true);
        heights(x, height);
        say(x, 1, "grow 0;lower 0;" + seed);
        x.set(2, 0, bees);
        x.state(state);
        x.weeks(1);
        return x;
    }

    private static void bees() {
        sentence("Terms 3: (e) If BEES are above 0 .. a DRAW of 1000: below BEES");
        int[][] all = {{1, 0, 1}, {1, 1, 0}, {500, 499, 1}, {500, 500, 0}, {999, 998, 1}, {999, 999, 0}, {1000, 999, 1}};
        for (int[] b : all) {
            for (boolean below : new boolean[] {false, true}) {
                int s = stateFor(below, b[1], 1000);
                PlantedDoubts x = flown(99, b[0], s, "");
                due("BEES " + b[0] + ", a DRAW of " + b[1], b[2] == 1 ? 0 : NONE, x.of(1, 0));
                due("one DRAW", after(s, 1), x.look(5));
                due("lines of the book", 1 + b[2], x.look(4));
            }
        }
        due("BEES 0: no DRAW", 8, flown(99, 0, 8, "").look(5));
        due("BEES 0: none", NONE, flown(99, 0, 8, "").of(1, 0));
        sentence("Terms 3: (e) HOUSE by HOUSE that had a POT of HEIGHT 50 at least behind (d)");
        due("49: no DRAW", 8, flown(49, 1000, 8, "").look(5));
        due("50: a DRAW", next(8), flown(50, 1000, 8, "").look(5));
        due("49: none", NONE, flown(49, 1000, 8, "").of(1, 0));
        due("50: it is carried", 0, flown(50, 1000, 8, "").of(1, 0));
        PlantedDoubts x = with(2);
        x.line(0, 1, true);
        x.pot(0, 3, 9);
        x.set(1, 0, 1000);
        x.set(2, 0, 1000);
        say(x, 1, "grow 89;");
        int s = stateFor(false, 5, 1000, 8, 10);
        x.state(s);
        x.weeks(1);
        due("what froze at (d) flies not", after(s, 2), x.look(5));
        due("what froze at (d) flies not", NONE, x.of(1, 0));
        PlantedDoubts y = with(2);
        y.line(0, 1, true);
        y.pot(0, 3, 9);
        y.set(2, 0, 1000);
        say(y, 1, "grow 40 when week=0;grow 0-1;");
        y.weeks(1);
        due("as it is behind (c)", 3, y.of(1, 0));
        y.weed(1);
        y.weeks(1);
        due("as it is behind (c)", NONE, y.of(1, 0));
    }

    private static void beesChoose() {
        sentence("Terms 3: (e) the least HOUSE without a POT to which it has a LINE gets one");
        PlantedDoubts x = with(8);
        heights(x, 0, 20, 0, 99);
        say(x, 1, "grow 0;lower 0;");
        for (int h : new int[] {1, 7, 5, 4}) x.line(3, h, true);
        x.set(2, 0, 1000);
        int[] order = {4, 5, 7};
        for (int i = 0; i < 3; i++) {
            x.weeks(1);
            due("to HOUSE " + order[i], 3, x.of(order[i], 0));
            due("pots", 3 + i, x.look(3));
        }
        sentence("Terms 3: (e) (without such a HOUSE a DRAW all the same)");
        x.state(0);
        x.weeks(1);
        due("all have one", next(0), x.look(5));
        due("pots", 5, x.look(3));
        PlantedDoubts lone = with(2);
        heights(lone, 99);
        lone.set(2, 0, 1000);
        lone.state(0);
        lone.weeks(1);
        due("without a LINE", next(0), lone.look(5));
        sentence("Terms 3: (e) HOUSE by HOUSE");
        PlantedDoubts y = with(4);
        heights(y, 99, 0, 99);
        say(y, 1, "grow 0;lower 0;");
        y.line(0, 1, true);
        y.line(2, 1, true);
        y.line(2, 3, true);
        y.set(2, 0, 1000);
        y.state(0);
        y.weeks(1);
        due("the first has HOUSE 1", 0, y.of(1, 0));
        due("so the next has HOUSE 3", 2, y.of(3, 0));
        due("two DRAWS", after(0, 2), y.look(5));
        int missed = stateFor(false, 999, 1000, 0, 1000);
        PlantedDoubts z = with(4);
        heights(z, 99, 0, 99);
        z.line(0, 1, true);
        z.line(2, 1, true);
        z.set(2, 0, 999);
        z.state(missed);
        z.weeks(1);
        due("the first had none", 2, z.of(1, 0));
        PlantedDoubts ends = with(8);
        heights(ends, 0, 0, 0, 0, 0, 0, 0, 99);
        say(ends, 1, "grow 0;lower 0;");
        ends.line(7, 0, true);
        ends.line(7, 6, true);
        ends.set(2, 0, 1000);
        ends.weeks(1);
        due("from the last HOUSE to the first", 7, ends.of(0, 0));
        due("not yet to another", 2, ends.look(3));
    }

    private static void seeds() {
        sentence("Terms 3: (e) HEIGHT seed (asked of the HOUSE it comes from; 0: none), TENDER alike, WATER 0");
        int[][] all = {{0, 0}, {1, 1}, {98, 98}, {99, 99}, {100, 99}};
        for (int[] a : all) {
            PlantedDoubts x = flown(50, 1000, 3, "seed " + a[0] + ";");
            due("seed " + a[0], a[1], x.of(1, 1));
            due("its THING", a[1] > 0 ? 0 : NONE, x.of(1, 0));
            due("its WATER", 0, x.of(1, 3));
            due("lines of the book", a[1] > 0 ? 2 : 1, x.look(4));
            due("a DRAW all the same", next(3), x.look(5));
            due("no further in this WEEK", NONE, x.of(2, 0));
            due("its DEGREE stays", 50, x.of(1, 10));
        }
        due("below 0: none", NONE, flown(50, 1000, 3, "seed 0-5;").of(1, 0));
        due("without a line: 10", 10, flown(50, 1000, 3, "").of(1, 1));
        PlantedDoubts x = with(3);
        x.line(0, 1, true);
        x.line(0, 2, true);
        x.pot(0, 6, 9);
        x.water(0, 77);
        x.tell(0, 6, 90);
        x.tell(0, 5, 90);
        x.tell(1, 6, 10);
        x.set(2, 0, 1000);
        say(x, 1, "grow 60;lower 1;seed 1 when water=0 and height=70 and degree=89 and sures=1 and lines=2 and week=0 and tender=9 and thing=6;seed 2;");
        x.weeks(1);
        due("as the POT is behind (d)", 1, x.of(1, 1));
        due("its THING", 6, x.of(1, 0));
        due("TENDER alike", 9, x.of(1, 2));
        due("its WATER", 0, x.of(1, 3));
        due("by bees", BY_BEES, x.book(1, 1));
    }

    private static void inspector() {
        sentence("Terms 3: (f) HOUSES that are SURE of more than MOST: BREACHES are so many more");
        for (int most = 0; most <= 8; most++) {
            for (int sures = Math.max(0, most - 1); sures <= Math.min(8, most + 1); sures++) {
                PlantedDoubts x = with(3);
                x.set(0, 0, most);
                for (int t = 0; t < sures; t++) {
                    x.tell(0, 7 - t, 90);
                    x.tell(2, t, 100);
                }
                for (int t = sures; t < 8; t++) x.tell(0, 7 - t, 89);
                int houses = sures > most ? 2 : 0;
                due("MOST " + most + ", SURE of " + sures, houses, x.weeks(1));
                due("BREACHES", houses, x.look(2));
                due("two WEEKS more", 2 * houses, x.weeks(2));
                due("BREACHES", 3 * houses, x.look(2));
                due("lines of the book", 3 * houses, x.look(4));
                due("what", houses > 0 ? A_BREACH : NONE, x.book(1, 1));
                due("the HOUSE", houses > 0 ? 2 : NONE, x.book(1, 2));
                due("of how many", houses > 0 ? sures : NONE, x.book(1, 3));
            }
        }
        PlantedDoubts y = with(1);
        y.set(0, 0, 0);
        y.tell(0, 0, 90);
        y.pot(0, 0, 0);
        due("89 behind (c)", 0, y.weeks(1));
    }

    private static void weeksGoBy() {
        sentence("14: WEEKS go by (1 .. 60)");
        PlantedDoubts x = with(1);
        x.set(0, 0, 0);
        x.tell(0, 0, 90);
        due("1", 1, x.weeks(1));
        due("WEEK", 1, x.look(1));
        due("60", 60, x.weeks(60));
        due("WEEK", 61, x.look(1));
        due("BREACHES", 61, x.look(2));
        sentence("14: NONE .. if .. WEEK would be above 999");
        int[][] all = {{939, 60, 999}, {940, 59, 999}, {998, 1, 999}, {997, 1, 998}};
        for (int[] a : all) {
            PlantedDoubts y = with(0);
            toWeek(y, a[0]);
            due("to " + a[2], 0, y.weeks(a[1]));
            due("WEEK", a[2], y.look(1));
            due("one too many", NONE, y.weeks(Math.min(60, 1000 - a[2])));
            due("WEEK", a[2], y.look(1));
        }
    }

    /** A garden whose book has so many lines, in WEEK 0, HOUSE 0 without a POT. */
    private static PlantedDoubts booked(int lines) {
        PlantedDoubts x = with(3);
        for (int i = 0; i + 1 < lines; i += 2) {
            x.pot(0, 4, 9);
            x.weed(0);
        }
        if (lines % 2 == 1) x.pot(2, 4, 9);
        return x;
    }

    private static void bookIsFull() {
        sentence("Terms 3: THE BOOK (150 lines; no more then)");
        for (int lines = 148; lines <= 150; lines++) {
            PlantedDoubts x = booked(lines);
            due("lines", lines, x.look(4));
            yes("potted", x.pot(1, 7, 3));
            due("the POT is there", 7, x.of(1, 0));
            due("lines", Math.min(150, lines + 1), x.look(4));
            yes("weeded", x.weed(1));
            due("the POT is gone", NONE, x.of(1, 0));
            due("lines", Math.min(150, lines + 2), x.look(4));
            due("the 150th is as it was written", lines == 149 ? POTTED : WEEDED, x.book(149, 1));
            due("no 151st", NONE, x.book(150, 1));
            yes("undone", x.undo());
            due("lines", Math.min(150, lines + 1), x.look(4));
            yes("undone", x.undo());
            due("lines", lines, x.look(4));
            due("behind the last", NONE, x.book(lines, 1));
        }
        PlantedDoubts y = booked(149);
        y.set(0, 0, 0);
        for (int h = 0; h < 3; h++) y.tell(h, 0, 90);
        due("three breaches", 3, y.weeks(1));
        due("all counted", 3, y.look(2));
        due("one line for them", 150, y.look(4));
        due("the first of them", 0, y.book(149, 2));
        due("a breach", A_BREACH, y.book(149, 1));
        y.weeks(1);
        due("no wilting in it", A_BREACH, y.book(149, 1));
        due("wilted all the same", NONE, y.of(2, 0));
        PlantedDoubts full = booked(150);
        say(full, 3, "on 0 pot 0 of 1 tender 9;on 1 weed 0;");
        full.weeks(1);
        due("by the plan, too", 1, full.of(0, 0));
        full.weeks(1);
        due("by the plan, too", NONE, full.of(0, 0));
        due("lines", 150, full.look(4));
    }

    private static void line(PlantedDoubts x, int i, int week, int what, int house, int thing) {
        int[] want = {week, what, house, thing};
        for (int w = 0; w < 4; w++) due("book(" + i + ", " + w + ")", want[w], x.book(i, w));
    }

    private static void bookSays() {
        sentence("Terms 3: WEEK, what (0 potted, 1 weeded, 2 wilted, 3 by frost, 4 by bees, 5 a breach), the HOUSE, the THING (5: of how many it is SURE)");
        PlantedDoubts x = with(3);
        x.line(1, 2, true);
        x.set(0, 0, 0);
        x.set(2, 0, 1000);
        x.pot(0, 3, 0);
        x.pot(1, 7, 9);
        x.pot(2, 4, 1);
        x.weed(2);
        for (int t = 0; t < 8; t++) x.tell(2, t, 90);
        say(x, 1, "lower 0;grow 0-10 when thing=3;grow 40 when week=0;grow 0;");
        x.weeks(1);
        line(x, 0, 0, POTTED, 0, 3);
        line(x, 1, 0, POTTED, 1, 7);
        line(x, 2, 0, POTTED, 2, 4);
        line(x, 3, 0, WEEDED, 2, 4);
        line(x, 4, 0, WILTED, 0, 3);
        line(x, 5, 0, BY_BEES, 2, 7);
        line(x, 6, 0, A_BREACH, 2, 8);
        due("lines", 7, x.look(4));
        x.set(1, 0, 1000);
        int s = stateFor(false, 5, 1000, 8, 10, 8, 10);
        x.state(s);
        x.weeks(1);
        line(x, 7, 1, BY_FROST, 1, 7);
        line(x, 8, 1, BY_FROST, 2, 7);
        line(x, 9, 1, A_BREACH, 2, 8);
        due("lines", 10, x.look(4));
        x.set(1, 0, 0);
        toWeek(x, 3);
        say(x, 3, "on 3 pot 0 of 6 tender 2;on 3 weed 0;");
        x.weeks(1);
        line(x, 11, 3, POTTED, 0, 6);
        line(x, 12, 3, WEEDED, 0, 6);
        due("lines", 14, x.look(4));
        x.pot(0, 6, 2);
        yes("water", x.water(0, 1));
        yes("water", x.water(0, 99));
        yes("tell", x.tell(0, 6, 0));
        due("watering and telling are not in it", 15, x.look(4));
    }

    private static void ofAHouse() {
        sentence("15: Of a HOUSE what 0 THING of its POT (NONE), 1 HEIGHT (0), 2 TENDER (NONE), 3 WATER (0), 4 .. 5 .. (sets), 10 + t DEGREE of THING t");
        PlantedDoubts x = with(8);
        for (int t = 0; t < 8; t++) x.tell(7, t, 93 + t);
        due("all", 255, x.of(7, 4));
        for (int t = 0; t < 8; t++) due("DEGREE " + t, 93 + t, x.of(7, 10 + t));
        x.line(7, 0, true);
        x.line(7, 6, true);
        due("lines", 65, x.of(7, 5));
        x.pot(7, 0, 0);
        int[] least = {0, 10, 0, 0};
        for (int w = 0; w < 4; w++) due("of(7, " + w + ")", least[w], x.of(7, w));
        sentence("15: 6 grow, 7 lower, 8 seed (6 .. 8: NONE - 99 without a POT)");
        int[] law = {-5, 1, 10};
        for (int w = 6; w <= 8; w++) due("of(7, " + w + ")", law[w - 6], x.of(7, w));
        x.weed(7);
        for (int w = 6; w <= 8; w++) due("of(7, " + w + ")", -100, x.of(7, w));
    }

    private static void sure() {
        sentence("Terms 1: SURE of it: 90 at least");
        for (int d : new int[] {0, 89, 90, 91, 100}) {
            PlantedDoubts x = with(1);
            boolean is = d >= 90;
            x.set(0, 0, 0);
            x.set(3, 6, 5);
            x.tell(0, 6, d);
            due("of(0, 4) at " + d, is ? 64 : 0, x.of(0, 4));
            due("gives(0)", is ? 1 : 0, x.gives(0));
            due("first(1, 2)", is ? 1 : 0, x.first(1, 2));
            due("down(0, 6)", is ? 0 : NONE, x.down(0, 6));
            say(x, 2, "work 0 sure 6;work 0 doubts 6;");
            due("done()", is ? 1 : 2, x.done());
            due("a week", is ? 1 : 0, x.weeks(1));
        }
    }

    private static void manyCalls() {
        sentence("An object is used for at most 512 calls");
        PlantedDoubts x = new PlantedDoubts();
        due("house()", 0, x.house());
        for (int i = 1; i < 511; i++) x.tell(0, i % 8, i % 101);
        due("the 512th", 510 % 101, x.of(0, 10 + 510 % 8));
        PlantedDoubts y = new PlantedDoubts();
        for (int i = 0; i < 8; i++) y.house();
        for (int i = 8; i < 511; i++) y.first(60, 0);
        due("the 512th", 0, y.first(60, 2));
    }
}
