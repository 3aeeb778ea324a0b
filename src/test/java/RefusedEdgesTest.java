/** Every call that the document refuses, just outside each of its bounds and far away: its answer, and that nothing changes. */
public final class RefusedEdgesTest extends Edges {
    // The rich garden has HOUSES 0 .. 2, POTS in 0 and 1, none in 2.
    private static final int[] NO_HOUSE = {-1, 3, 8, MIN, MAX};
    private static final int[] NO_THING = {-1, 8, MIN, MAX};

    public static void main(String[] args) {
        houses();
        sets();
        lines();
        tape();
        texts();
        deeds();
        weeks();
        readings();
        thoughts();
        thoughtsOfGround();
        kept();
        nothingOfThoughtStays();
        finish();
    }

    private static void houses() {
        sentence("3: NONE if there are eight");
        for (int n = 0; n < 8; n++) due("a house", n, with(n).house());
        changesNothing("house()", x -> rich(x, 8), NONE, x -> x.house());
    }

    private static void sets() {
        sentence("4: false if one can't be, or another what");
        int[][] no = {{0, 0, -1}, {0, 0, 9}, {0, 0, MIN}, {0, 0, MAX}, {1, 0, -1}, {1, 0, 1001}, {1, 0, MIN}, {1, 0, MAX},
            {2, 0, -1}, {2, 0, 1001}, {2, 0, MIN}, {2, 0, MAX}, {3, 0, -1}, {3, 7, 6}, {3, 0, MIN}, {3, 0, MAX},
            {3, -1, 1}, {3, 8, 1}, {3, MIN, 1}, {3, MAX, 1}, {-1, 0, 1}, {4, 0, 1}, {MIN, 0, 1}, {MAX, 0, 1}};
        for (int[] a : no) refused("set(" + a[0] + ", " + a[1] + ", " + a[2] + ")", 0, x -> bit(x.set(a[0], a[1], a[2])));
    }

    private static void lines() {
        sentence("5: false if one can't be (alike)");
        for (boolean is : new boolean[] {true, false}) {
            for (int h = 0; h < 3; h++) { int a = h; refused("line alike", 0, x -> bit(x.line(a, a, is))); }
            for (int h : NO_HOUSE) {
                refused("line(0, " + h + ")", 0, x -> bit(x.line(0, h, is)));
                refused("line(" + h + ", 1)", 0, x -> bit(x.line(h, 1, is)));
                refused("line(" + h + ", " + h + ")", 0, x -> bit(x.line(h, h, is)));
            }
        }
    }

    private static void tape() {
        sentence("6: NONE, and nothing comes, if there would be more than 400");
        for (int n : new int[] {381, 390, 399, 400}) {
            int cut = n;
            changesNothing("feed behind " + n, x -> { rich(x); fill(x, cut); }, NONE, x -> x.feed(0x30206672, 0x6f6d2031, 0x20676976, 0x65732032, 0x3b303030));
        }
        PlantedDoubts x = with(0);
        fill(x, 380);
        due("feed behind 380", 400, x.feed(0, 0, 0, 0, 0));
        sentence("7: false, changing nothing, if it has not so many, or n is below 0");
        for (int n : new int[] {15, 20, 400, 401, MAX, -1, MIN}) refused("end(" + n + ")", 0, y -> bit(y.end(n)));
        changesNothing("end(1) of an empty one", y -> { }, 0, y -> bit(y.end(1)));
        changesNothing("end(401) of a full one", y -> fill(y, 400), 0, y -> bit(y.end(401)));
    }
    private static void fill(PlantedDoubts x, int n) {
        x.end(0);
        for (int i = 0; i < 20; i++) blanks(x);
        x.end(n);
    }

    private static void texts() {
        sentence("8: NONE: no such one (fault() tells 0)");
        for (int k : new int[] {-1, 4, MIN, MAX}) {
            PlantedDoubts x = new PlantedDoubts();
            rich(x);
            due("text(" + k + ")", NONE, x.text(k));
            due("fault(0)", 0, x.fault(0));
            due("fault(1)", NONE, x.fault(1));
            alike("text(" + k + ")", seen(Edges::rich, false), seen(y -> { rich(y); y.text(k); }, false));
        }
        sentence("8: NONE: .. or a FAULT (it stays as it was)");
        String[][] no = {{"0 clashes 1;x", "8 clashes 1;", "3 clashes 2;".repeat(17), "3 from"},
            {"grow 7;x", "lower 50;seed 9/0;", "seed 1;".repeat(17), "grow 1 when not not not not not not not not not 1=1;"},
            {"work 0 sure 0;x", "work 3 sure 0;", "work 2 sure 2;".repeat(13), "work 0 doubts"},
            {"on 2 weed 0;x", "on 2 weed 3;", "on 2 weed 0;".repeat(17), "on 2 tell 0 of 0 to"}};
        for (int k = 0; k < 4; k++) {
            for (String t : no[k]) {
                int a = k;
                alike("text(" + k + ") of " + t, seen(Edges::rich, false), seen(y -> { rich(y); y.end(0); say(y, a, t); }, false));
            }
        }
        sentence("9: NONE for another what");
        for (int w : new int[] {-1, 2, MIN, MAX}) refused("fault(" + w + ")", NONE, x -> x.fault(w));
    }

    private static void deeds() {
        sentence("10: To POT: .. false if one can't");
        refused("pot where there is one", 0, x -> bit(x.pot(0, 5, 4)));
        refused("pot where there is one", 0, x -> bit(x.pot(1, 7, 0)));
        for (int h : NO_HOUSE) refused("pot(" + h + ")", 0, x -> bit(x.pot(h, 0, 0)));
        for (int t : NO_THING) refused("pot of " + t, 0, x -> bit(x.pot(2, t, 0)));
        for (int t : new int[] {-1, 10, MIN, MAX}) refused("pot tender " + t, 0, x -> bit(x.pot(2, 0, t)));
        sentence("11: To WATER (n 1 .. 99): .. false if one can't");
        refused("water without a pot", 0, x -> bit(x.water(2, 1)));
        for (int h : NO_HOUSE) refused("water(" + h + ")", 0, x -> bit(x.water(h, 1)));
        for (int n : new int[] {0, -1, 100, MIN, MAX}) refused("water by " + n, 0, x -> bit(x.water(0, n)));
        sentence("12: To WEED: .. false if one can't");
        refused("weed without a pot", 0, x -> bit(x.weed(2)));
        for (int h : NO_HOUSE) refused("weed(" + h + ")", 0, x -> bit(x.weed(h)));
        sentence("13: To TELL: .. false if one can't");
        for (int h : NO_HOUSE) refused("tell(" + h + ")", 0, x -> bit(x.tell(h, 0, 1)));
        for (int t : NO_THING) refused("tell of " + t, 0, x -> bit(x.tell(0, t, 1)));
        for (int d : new int[] {-1, 101, MIN, MAX}) refused("tell to " + d, 0, x -> bit(x.tell(0, 0, d)));
    }

    private static void weeks() {
        sentence("14: NONE, and nothing is done, if one can't be");
        for (int n : new int[] {0, -1, 61, MIN, MAX}) refused("weeks(" + n + ")", NONE, x -> x.weeks(n));
        sentence("14: NONE, and nothing is done, .. or WEEK would be above 999");
        for (int[] a : new int[][] {{999, 1}, {999, 60}, {998, 2}, {940, 60}, {941, 59}}) {
            changesNothing("weeks(" + a[1] + ") at " + a[0], x -> { rich(x); toWeek(x, a[0]); }, NONE, x -> x.weeks(a[1]));
        }
    }

    private static void readings() {
        sentence("15: NONE - 999 if there is none such, or another what");
        for (int h : NO_HOUSE) for (int w : new int[] {0, 4, 6, 10}) refused("of(" + h + ", " + w + ")", NONE - 999, x -> x.of(h, w));
        for (int w : new int[] {-1, 9, 18, 19, MIN, MAX}) refused("of(0, " + w + ")", NONE - 999, x -> x.of(0, w));
        sentence("15: 6 .. 8: NONE - 99 without a POT");
        for (int w = 6; w <= 8; w++) { int a = w; refused("of(2, " + w + ")", NONE - 99, x -> x.of(2, a)); }
        sentence("16: NONE if there is none such, or another what");
        for (int i : new int[] {-1, 2, 16, MIN, MAX}) for (int w = 0; w < 3; w++) { int a = w; refused("reason(" + i + ")", NONE, x -> x.reason(i, a)); }
        for (int w : new int[] {-1, 3, MIN, MAX}) refused("reason(0, " + w + ")", NONE, x -> x.reason(0, w));
        sentence("17: NONE if there is none such, or another what");
        PlantedDoubts x = new PlantedDoubts();
        rich(x);
        int lines = x.look(4);
        for (int i : new int[] {-1, lines, 150, MIN, MAX}) for (int w = 0; w < 4; w++) { int a = w; refused("book(" + i + ")", NONE, y -> y.book(i, a)); }
        for (int w : new int[] {-1, 4, MIN, MAX}) refused("book(0, " + w + ")", NONE, y -> y.book(0, w));
        sentence("33: NONE for another what");
        for (int w : new int[] {-1, 15, 16, 19, 28, MIN, MAX}) refused("look(" + w + ")", NONE, y -> y.look(w));
    }

    private static void thoughts() {
        sentence("18: NONE if one can't be, or another what");
        for (int w = 0; w < 3; w++) for (int n : new int[] {0, -1, 61, MIN, MAX}) { int a = w; refused("first(" + n + ", " + w + ")", NONE, x -> x.first(n, a)); }
        for (int w : new int[] {-1, 3, MIN, MAX}) refused("first(60, " + w + ")", NONE, x -> x.first(60, w));
        sentence("19: NONE if it can't be so, or another what");
        for (int w : new int[] {-1, 1, 9, 13, 17, 18, MIN, MAX}) refused("gives(" + w + ")", NONE, x -> x.gives(w));
        for (int w : new int[] {0, 10, 11, 12}) {
            changesNothing("gives(" + w + ") without STOCK", x -> { rich(x); for (int t = 0; t < 8; t++) x.set(3, t, 0); }, NONE, x -> x.gives(w));
        }
        sentence("21: NONE if one can't be, or another what");
        for (int h : NO_HOUSE) for (int w = 0; w < 2; w++) { int a = w; refused("struck(" + h + ")", NONE, x -> x.struck(h, a)); }
        for (int w : new int[] {-1, 2, MIN, MAX}) refused("struck(0, " + w + ")", NONE, x -> x.struck(0, w));
        sentence("22: NONE if one can't be, or it is not SURE of it");
        for (int h : NO_HOUSE) refused("down(" + h + ")", NONE, x -> x.down(h, 0));
        for (int t : NO_THING) refused("down(0, " + t + ")", NONE, x -> x.down(0, t));
        changesNothing("down by one of 89", x -> { rich(x); x.tell(0, 0, 89); }, NONE, x -> x.down(0, 0));
        sentence("25: NONE if one can't be (how 0, 1), or there are twelve");
        for (int h : new int[] {-2, 3, 8, MIN, MAX}) refused("talk(" + h + ")", NONE, x -> x.talk(h, 0, 0));
        for (int t : NO_THING) refused("talk about " + t, NONE, x -> x.talk(0, t, 1));
        for (int how : new int[] {-1, 2, MIN, MAX}) refused("talk how " + how, NONE, x -> x.talk(0, 0, how));
        for (int how = 0; how < 2; how++) { int a = how; changesNothing("the 13th talk", x -> { rich(x); for (int i = 2; i < 12; i++) x.talk(2, i % 8, i % 2); }, NONE, x -> x.talk(0, 0, a)); }
        sentence("26: NONE if one can't be; 27: NONE if .. one can't be");
        for (int h : NO_HOUSE) { refused("fits(" + h + ")", NONE, x -> x.fits(h, 0)); refused("ask(" + h + ")", NONE, x -> x.ask(h, 0)); }
        for (int e : new int[] {-1, 4, MIN, MAX}) { refused("fits(0, " + e + ")", NONE, x -> x.fits(0, e)); refused("ask(0, " + e + ")", NONE, x -> x.ask(0, e)); }
    }

    private static void thoughtsOfGround() {
        sentence("23: NONE if by none, or one can't be");
        for (int h : NO_HOUSE) refused("by(" + h + ", 5)", NONE, x -> x.by(h, 5));
        for (int t : NO_THING) refused("by(0, " + t + ")", NONE, x -> x.by(0, t));
        refused("by none", NONE, x -> x.by(0, 7));
        sentence("24: NONE if one can't be (alike)");
        for (int h = 0; h < 3; h++) { int a = h; refused("part alike", NONE, x -> x.part(a, a)); }
        for (int h : NO_HOUSE) {
            refused("part(0, " + h + ")", NONE, x -> x.part(0, h));
            refused("part(" + h + ", 0)", NONE, x -> x.part(h, 0));
            refused("part(" + h + ", " + h + ")", NONE, x -> x.part(h, h));
        }
        sentence("28: NONE if by none, one can't be (no POT), or another what");
        for (int w = 0; w < 2; w++) {
            int a = w;
            for (int h : NO_HOUSE) refused("waters(" + h + ")", NONE, x -> x.waters(h, 1, a));
            refused("waters without a pot", NONE, x -> x.waters(2, 1, a));
            for (int n : new int[] {0, -1, 31, MIN, MAX}) refused("waters(0, " + n + ")", NONE, x -> x.waters(0, n, a));
            changesNothing("waters by none", x -> { rich(x); x.end(0); say(x, 1, "grow 0-99;"); }, NONE, x -> x.waters(0, 1, a));
        }
        for (int w : new int[] {-1, 2, MIN, MAX}) refused("waters(0, 1, " + w + ")", NONE, x -> x.waters(0, 1, w));
        sentence("29: NONE if who begins loses, or another what");
        for (int w : new int[] {-1, 2, MIN, MAX}) refused("game(" + w + ")", NONE, x -> x.game(w));
        for (int w = 0; w < 2; w++) { int a = w; changesNothing("game of alike pots", x -> { x.house(); x.house(); heights(x, 20, 20); }, NONE, x -> x.game(a)); }
        sentence("30: NONE if one POT is too high, or one can't be");
        for (int c : new int[] {0, -1, 1000, MIN, MAX}) refused("greenhouses(" + c + ")", NONE, x -> x.greenhouses(c));
        changesNothing("too high by one", x -> { x.house(); x.house(); heights(x, 20, 30); }, NONE, x -> x.greenhouses(29));
    }

    private static void kept() {
        sentence("31: false if there is nothing");
        changesNothing("undo() of a new object", x -> { }, 0, x -> bit(x.undo()));
        changesNothing("undo() when all is forgotten", x -> { rich(x); x.set(0, 0, 2); }, 0, x -> bit(x.undo()));
        changesNothing("undo() when all is undone", x -> { rich(x); for (int i = 0; i < 6; i++) x.undo(); }, 0, x -> bit(x.undo()));
        sentence("32: false if there is none");
        changesNothing("image(false) without one", x -> { x.house(); x.tell(0, 0, 95); x.pot(0, 0, 0); x.weeks(2); }, 0, x -> bit(x.image(false)));
    }

    private static void nothingOfThoughtStays() {
        sentence("4: IN THOUGHT (nothing of it stays)");
        changesNothing("first(60, 0)", Edges::rich, 0, x -> x.first(60, 0));
        Ask[] all = {x -> x.first(60, 2), x -> x.gives(0), x -> x.gives(10), x -> x.done(), x -> x.struck(0, 0), x -> x.down(0, 0), x -> x.by(2, 4),
            x -> x.part(0, 2), x -> x.fits(0, 1), x -> x.ask(0, 1), x -> x.waters(0, 30, 0), x -> x.waters(1, 30, 1), x -> x.game(0), x -> x.game(1),
            x -> x.greenhouses(99), x -> x.of(0, 6), x -> x.of(1, 7), x -> x.of(0, 8), x -> x.of(0, 4), x -> x.reason(0, 1), x -> x.book(0, 1), x -> x.look(5),
            x -> x.fault(0)};
        for (Ask ask : all) {
            PlantedDoubts y = new PlantedDoubts();
            rich(y);
            changesNothing("a thought", Edges::rich, ask.of(y), ask);
        }
    }
}
