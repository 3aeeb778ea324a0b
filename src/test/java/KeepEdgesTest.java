/** The edges of what is kept, sentence by sentence: promises 31 to 33 and Terms 4. */
public final class KeepEdgesTest extends Edges {
    public static void main(String[] args) {
        eachGoesBack();
        sixAreKept();
        notUndoneYet();
        forgotten();
        notForgotten();
        lawWorksAndTalksStay();
        imageHoldsAll();
        imageLeavesOut();
        imageMoreThanOnce();
        imageOfNothing();
        looks();
        finish();
    }

    private static void eachGoesBack() {
        sentence("31: the latest POTTING, WATERING, WEEDING, TELLING, WEEK not undone yet goes back (STATE, THE BOOK, too)");
        Run[] deeds = {x -> x.pot(2, 3, 4), x -> x.water(0, 9), x -> x.weed(0), x -> x.tell(0, 0, 1), x -> x.weeks(1)};
        // A HOUSE told anew forgets what could be undone, so that both sides have nothing else to undo.
        Run before = x -> { rich(x); x.house(); };
        for (int i = 0; i < deeds.length; i++) {
            Run deed = deeds[i];
            PlantedDoubts x = new PlantedDoubts();
            before.on(x);
            no("nothing to undo", x.undo());
            deed.on(x);
            due("one to undo", 1, x.look(11));
            yes("undone", x.undo());
            due("none to undo", 0, x.look(11));
            no("nothing to undo", x.undo());
            alike("deed " + i + " undone", seen(before, true), seen(y -> { before.on(y); deed.on(y); y.undo(); }, true));
        }
        sentence("31: UNDO .. WEEK: each of several");
        PlantedDoubts y = with(1);
        y.set(0, 0, 0);
        y.set(1, 0, 1000);
        y.tell(0, 0, 90);
        y.weeks(3);
        due("one telling, three WEEKS", 4, y.look(11));
        for (int week = 2; week >= 0; week--) {
            yes("undone", y.undo());
            due("WEEK", week, y.look(1));
            due("BREACHES", week, y.look(2));
            due("the book", week, y.look(4));
            due("STATE", after(0, week), y.look(5));
        }
        yes("the telling", y.undo());
        due("DEGREE", 50, y.of(0, 10));
        y.tell(0, 0, 50);
        due("telling what is so already can be undone, too", 1, y.look(11));
    }

    private static void sixAreKept() {
        sentence("31: 6 are kept");
        for (int n = 1; n <= 9; n++) {
            PlantedDoubts x = with(1);
            for (int i = 1; i <= n; i++) x.tell(0, 0, i);
            due("what can be undone of " + n, Math.min(6, n), x.look(11));
            for (int i = n - 1; i >= Math.max(0, n - 6); i--) {
                yes("undone", x.undo());
                due("DEGREE", i == 0 ? 50 : i, x.of(0, 10));
                due("what can be undone", i - Math.max(0, n - 6), x.look(11));
            }
            no("no more", x.undo());
            due("DEGREE", n <= 6 ? 50 : n - 6, x.of(0, 10));
        }
        PlantedDoubts y = with(1);
        y.weeks(60);
        for (int i = 0; i < 6; i++) yes("a WEEK", y.undo());
        no("the seventh", y.undo());
        due("WEEK", 54, y.look(1));
    }

    private static void notUndoneYet() {
        sentence("31: the latest .. not undone yet");
        PlantedDoubts x = with(1);
        x.tell(0, 0, 1);
        x.tell(0, 0, 2);
        x.undo();
        x.tell(0, 0, 3);
        due("two", 2, x.look(11));
        x.undo();
        due("back to 1", 1, x.of(0, 10));
        x.undo();
        due("back to 50", 50, x.of(0, 10));
        no("no more", x.undo());
        for (int i = 0; i < 8; i++) x.tell(0, 0, 60 + i);
        for (int i = 0; i < 3; i++) x.undo();
        for (int i = 0; i < 2; i++) x.tell(0, 0, 70 + i);
        due("three and two", 5, x.look(11));
        int[] back = {70, 64, 63, 62, 61};
        for (int b : back) {
            yes("undone", x.undo());
            due("DEGREE", b, x.of(0, 10));
        }
        no("no more", x.undo());
        PlantedDoubts y = with(2);
        y.line(0, 1, true);
        y.pot(0, 0, 9);
        y.set(1, 0, 500);
        y.state(99);
        y.weeks(2);
        int state = y.look(5), pots = y.look(3), lines = y.look(4);
        y.undo();
        y.undo();
        y.weeks(2);
        due("the same DRAWS anew", state, y.look(5));
        due("the same POTS", pots, y.look(3));
        due("the same book", lines, y.look(4));
    }

    /** Six deeds that can be undone, then this: what can be undone then. */
    private static int left(Run then) {
        PlantedDoubts x = new PlantedDoubts();
        rich(x);
        x.end(0);
        due("six ahead of it", 6, x.look(11));
        then.on(x);
        int left = x.look(11);
        due("undo()", left > 0 ? 1 : 0, bit(x.undo()));
        return left;
    }

    private static void forgotten() {
        sentence("31: whatever else is told but THE LAW, WORKS, TALKS .. forgets them");
        due("state", 0, left(x -> x.state(1)));
        due("state as it is", 0, left(x -> x.state(x.look(5))));
        due("house", 0, left(x -> x.house()));
        due("MOST", 0, left(x -> x.set(0, 0, 8)));
        due("FROST", 0, left(x -> x.set(1, 0, 0)));
        due("BEES", 0, left(x -> x.set(2, 0, 1000)));
        due("STOCK", 0, left(x -> x.set(3, 7, 5)));
        due("a LINE", 0, left(x -> x.line(0, 2, true)));
        due("no LINE", 0, left(x -> x.line(0, 1, false)));
        due("REASONS", 0, left(x -> say(x, 0, "0 clashes 1;")));
        due("REASONS, empty", 0, left(x -> x.text(0)));
        due("A PLAN", 0, left(x -> say(x, 3, "on 0 weed 0;")));
        due("A PLAN, empty", 0, left(x -> x.text(3)));
        due("THE IMAGE gone back to", 0, left(x -> x.image(false)));
    }

    private static void notForgotten() {
        sentence("31: but THE LAW, WORKS, TALKS (the taking of THE IMAGE does not)");
        due("THE LAW", 6, left(x -> say(x, 1, "grow 1;")));
        due("THE LAW, empty", 6, left(x -> x.text(1)));
        due("WORKS", 6, left(x -> say(x, 2, "work 0 sure 0;")));
        due("WORKS, empty", 6, left(x -> x.text(2)));
        due("TALKS", 6, left(x -> x.talk(0, 0, 0)));
        due("TALKS, none", 6, left(x -> x.talk(NONE, 0, 0)));
        due("THE IMAGE taken", 6, left(x -> x.image(true)));
        due("the TAPE", 6, left(x -> { blanks(x); x.end(5); }));
        due("a FAULT of REASONS", 6, left(x -> say(x, 0, "0 clashes 0;")));
        due("a FAULT of A PLAN", 6, left(x -> say(x, 3, "on 1000")));
        due("no such text", 6, left(x -> x.text(4)));
        sentence("31: what can't be is not told");
        due("set", 6, left(x -> x.set(0, 0, 9)));
        due("line", 6, left(x -> x.line(0, 0, true)));
        due("deeds", 6, left(x -> { x.pot(0, 0, 0); x.water(2, 1); x.weed(2); x.tell(0, 0, 101); x.weeks(61); x.weeks(0); }));
        PlantedDoubts eight = with(8);
        eight.tell(0, 0, 1);
        eight.house();
        due("a ninth HOUSE", 1, eight.look(11));
        PlantedDoubts none = with(1);
        none.tell(0, 0, 1);
        none.image(false);
        due("no IMAGE", 1, none.look(11));
    }

    private static void lawWorksAndTalksStay() {
        sentence("31: THE LAW, WORKS, TALKS told since stay as they are told");
        PlantedDoubts x = with(1);
        x.pot(0, 0, 0);
        say(x, 1, "grow 7;");
        say(x, 2, "work 0 doubts 0;work 0 sure 0;");
        x.talk(0, 0, 1);
        yes("the potting", x.undo());
        due("lines of THE LAW", 1, x.look(7));
        due("WORKS", 2, x.look(8));
        due("TALKS", 1, x.look(10));
        x.pot(0, 0, 0);
        due("THE LAW", 7, x.of(0, 6));
        due("DONE", 1, x.done());
        due("FITS", 64, x.fits(0, 0));
    }

    private static void change(PlantedDoubts x) {
        x.end(0);
        x.house();
        x.line(0, 1, false);
        x.line(0, 2, true);
        x.set(0, 0, 8);
        x.set(1, 0, 0);
        x.set(2, 0, 0);
        for (int t = 0; t < 8; t++) x.set(3, t, 5);
        x.state(-7);
        say(x, 0, "7 from 6 gives 9;");
        say(x, 1, "seed 3;");
        say(x, 2, "work 3 doubts 7;");
        say(x, 3, "on 9 weed 3;");
        x.talk(NONE, 0, 0);
        for (int i = 0; i < 12; i++) x.talk(2, 7, 0);
        x.weed(0);
        x.pot(3, 7, 9);
        for (int t = 0; t < 8; t++) x.tell(0, t, 99);
        x.weeks(20);
    }

    private static void imageHoldsAll() {
        sentence("32: THE IMAGE: all that is and was told .. as it was when it was taken");
        // Both sides have nothing to undo, and the same IMAGE: the one that was just taken.
        Run taken = x -> { rich(x); x.end(0); x.text(9); x.house(); x.image(true); };
        Run back = x -> { taken.on(x); change(x); x.text(9); x.image(false); };
        alike("gone back to", seen(taken, true), seen(back, true));
        Run backAtOnce = x -> { taken.on(x); x.image(false); };
        alike("gone back to at once", seen(taken, true), seen(backAtOnce, true));
        PlantedDoubts y = with(1);
        y.image(true);
        for (int i = 0; i < 75; i++) { y.pot(0, 4, 9); y.weed(0); }
        y.image(true);
        y.undo();
        y.undo();
        y.image(false);
        due("a full book", 150, y.look(4));
        due("its last line", 1, y.book(149, 1));
        PlantedDoubts z = with(2);
        z.pot(0, 1, 1);
        z.weeks(1);
        z.pot(1, 2, 2);
        z.image(true);
        for (int i = 0; i < 3; i++) z.undo();
        z.pot(1, 5, 5);
        z.weed(1);
        z.image(false);
        int[][] book = {{0, 0, 0, 1}, {1, 0, 1, 2}};
        for (int i = 0; i < 2; i++) for (int w = 0; w < 4; w++) due("book(" + i + ", " + w + "), written over since", book[i][w], z.book(i, w));
        due("no more", 2, z.look(4));
    }

    private static void imageLeavesOut() {
        sentence("32: but the TAPE, fault() and what can be undone (nothing then)");
        PlantedDoubts x = with(1);
        say(x, 0, "0 clashes 1;x");
        feed(x, "0 clashes 2;");
        x.tell(0, 0, 1);
        yes("taken", x.image(true));
        due("what can be undone stays", 1, x.look(11));
        x.end(0);
        say(x, 0, "8");
        feed(x, "0 clashes 3;4 clashes 5;");
        x.tell(0, 0, 2);
        yes("gone back to", x.image(false));
        due("nothing can be undone", 0, x.look(11));
        no("nothing can be undone", x.undo());
        due("as it was when it was taken", 1, x.of(0, 10));
        due("the FAULT of the latest text()", 2, x.fault(0));
        due("its place", 0, x.fault(1));
        due("the TAPE as it is", 2, x.text(0));
        due("what is on it", 8, x.reason(0, 1));
    }

    private static void imageMoreThanOnce() {
        sentence("32: gone back to it may be more than once");
        PlantedDoubts x = with(1);
        x.tell(0, 0, 11);
        x.image(true);
        for (int i = 0; i < 5; i++) {
            x.tell(0, 0, 20 + i);
            x.pot(0, i, 0);
            x.weeks(1);
            yes("again", x.image(false));
            due("DEGREE", 11, x.of(0, 10));
            due("POTS", 0, x.look(3));
            due("WEEK", 0, x.look(1));
        }
        x.tell(0, 0, 12);
        x.image(true);
        x.tell(0, 0, 13);
        x.image(false);
        due("the latest one", 12, x.of(0, 10));
        sentence("32: false if there is none");
        PlantedDoubts y = with(0);
        no("none", y.image(false));
        no("none yet", y.image(false));
        yes("taken", y.image(true));
        yes("there it is", y.image(false));
    }

    private static void imageOfNothing() {
        sentence("32: THE IMAGE of a new object");
        PlantedDoubts x = with(0);
        x.image(true);
        rich(x, 8);
        x.image(true);
        x.image(false);
        due("HOUSES", 8, x.look(0));
        PlantedDoubts y = with(0);
        y.image(true);
        for (int h = 0; h < 8; h++) y.house();
        y.line(0, 7, true);
        y.pot(7, 7, 9);
        y.water(7, 9);
        y.tell(7, 7, 100);
        y.image(false);
        due("no HOUSES", 0, y.look(0));
        due("no POTS", 0, y.look(3));
        due("none", NONE - 999, y.of(0, 10));
        due("no HOUSE to work in", NONE, say(y, 2, "work 0 sure 0;"));
        for (int h = 0; h < 8; h++) due("a HOUSE anew", h, y.house());
        int[] of = {NONE, 0, NONE, 0, 0, 0};
        for (int w = 0; w < 6; w++) due("of(7, " + w + ")", of[w], y.of(7, w));
        due("DEGREE", 50, y.of(7, 17));
        due("no LINE", 0, y.part(0, 7));
    }

    private static void looks() {
        sentence("33: What 0 HOUSES .. 14 BEES, 20 + t STOCK of THING t");
        PlantedDoubts x = with(8);
        x.set(0, 0, 8);
        x.set(1, 0, 1000);
        x.set(2, 0, 999);
        for (int t = 0; t < 8; t++) x.set(3, t, t % 6);
        for (int h = 0; h < 8; h++) x.pot(h, h, 0);
        say(x, 0, "0 clashes 1;".repeat(16));
        say(x, 1, "lower 0;".repeat(15) + "grow 0;");
        say(x, 2, "work 7 sure 0;".repeat(12));
        say(x, 3, "on 9 weed 7;".repeat(16));
        for (int i = 0; i < 12; i++) x.talk(0, 0, 0);
        x.state(MIN);
        for (int i = 0; i < 5; i++) x.tell(0, 0, 1);
        int[] want = {8, 0, 0, 8, 8, MIN, 16, 16, 12, 16, 12, 5, 8, 1000, 999};
        for (int w = 0; w < 15; w++) due("look(" + w + ")", want[w], x.look(w));
        for (int t = 0; t < 8; t++) due("STOCK", t % 6, x.look(20 + t));
        for (int w : new int[] {-1, 15, 19, 28}) due("look(" + w + ")", NONE, x.look(w));
    }
}
