/** The edges of what is thought, sentence by sentence: promises 18 to 30 and Terms 4. */
public final class ThoughtEdgesTest extends Edges {
    public static void main(String[] args) {
        first();
        firstIsInThought();
        gives();
        givesTheFirstWay();
        done();
        struck();
        down();
        by();
        part();
        talks();
        fits();
        errors();
        ask();
        waters();
        watersAsTheyWouldBe();
        game();
        greenhouses();
        finish();
    }

    private static void three(String what, PlantedDoubts x, int n, int house, int week, int all) {
        due(what + ": the HOUSE", house, x.first(n, 0));
        due(what + ": the WEEK", week, x.first(n, 1));
        due(what + ": BREACHES", all, x.first(n, 2));
    }

    private static void first() {
        sentence("18: FIRST of n (1 .. 60) WEEKS: the HOUSE .. (of several the least), the WEEK; how many BREACHES in all; (NONE)");
        PlantedDoubts x = with(8);
        three("none", x, 1, NONE, NONE, 0);
        three("none", x, 60, NONE, NONE, 0);
        x.set(0, 0, 1);
        sure(x, 7, 0, 7);
        three("the last HOUSE", x, 1, 7, 0, 1);
        three("the last HOUSE", x, 60, 7, 0, 60);
        sure(x, 3, 1, 2);
        three("the least of two", x, 1, 3, 0, 2);
        three("the least of two", x, 60, 3, 0, 120);
        PlantedDoubts y = with(3);
        y.set(0, 0, 0);
        say(y, 3, "on 59 tell 2 of 0 to 90;on 60 tell 1 of 0 to 90;on 61 tell 0 of 0 to 90;");
        three("one WEEK too few", y, 59, NONE, NONE, 0);
        three("the 60th WEEK", y, 60, 2, 59, 1);
        y.weeks(1);
        three("the first by WEEK, not by number", y, 60, 2, 59, 3);
        y.weeks(1);
        three("as weeks went by", y, 60, 2, 59, 6);
        y.weeks(58);
        three("at once", y, 1, 1, 60, 2);
        PlantedDoubts late = with(1);
        late.set(0, 0, 0);
        toWeek(late, 999);
        say(late, 3, "on 999 tell 0 of 7 to 90;");
        three("in thought WEEK 999 goes by, too", late, 60, 0, 999, 60);
        due("but only in thought", NONE, late.weeks(1));
        sentence("18: SURE of more than MOST at (f)");
        PlantedDoubts z = with(1);
        z.set(0, 0, 1);
        z.tell(0, 0, 90);
        z.tell(0, 1, 91);
        z.pot(0, 0, 0);
        three("89 behind (c)", z, 1, NONE, NONE, 0);
        z.tell(0, 0, 91);
        three("90 behind (c)", z, 1, 0, 0, 1);
        three("then 90 by the height of 5", z, 2, 0, 0, 2);
        z.set(0, 0, 2);
        three("just MOST", z, 60, NONE, NONE, 0);
    }

    private static void firstIsInThought() {
        sentence("Terms 4: no DRAWS: no FROST, no BEES");
        PlantedDoubts x = with(2);
        x.line(0, 1, true);
        x.set(0, 0, 0);
        x.set(1, 0, 1000);
        x.set(2, 0, 1000);
        say(x, 1, "grow 89 when week=0;grow 0;lower 1;seed 99;");
        x.pot(0, 0, 9);
        x.tell(0, 0, 92);
        x.tell(1, 0, 90);
        three("the POT stays, and none is carried", x, 9, 0, 0, 2 + 9);
        due("STATE", 0, x.look(5));
        sentence("Terms 4: (nothing of it stays)");
        three("the same again", x, 9, 0, 0, 2 + 9);
        due("WEEK", 0, x.look(1));
        due("BREACHES", 0, x.look(2));
        due("DEGREE", 92, x.of(0, 10));
        due("HEIGHT", 10, x.of(0, 1));
        due("the book", 1, x.look(4));
    }

    private static void gives() {
        sentence("19: each HOUSE that is SURE of more than MOST gets doubts of just so many unlike THINGS that it is SURE of");
        PlantedDoubts none = with(0);
        due("no HOUSES", 0, none.gives(0));
        due("no HOUSES", NONE, none.gives(10));
        for (int most = 0; most <= 8; most++) {
            PlantedDoubts x = with(2);
            x.set(0, 0, most);
            for (int t = 0; t < 8; t++) x.set(3, t, 1);
            sure(x, 1, 0, 1, 2, 3, 4, 5, 6, 7);
            due("of eight with MOST " + most, 8 - most, x.gives(0));
            due("the least set", (1 << 8 - most) - 1, x.gives(11));
            due("HOUSE 0", 0, x.gives(10));
            due("no HOUSE 2", NONE, x.gives(12));
        }
        PlantedDoubts just = with(1);
        sure(just, 0, 2, 3, 5);
        due("just MOST: nothing, though there is no STOCK", 0, just.gives(0));
        just.tell(0, 6, 90);
        due("one over it, no STOCK", NONE, just.gives(0));
        just.set(3, 4, 5);
        due("STOCK of one that it is not SURE of", NONE, just.gives(10));
        just.set(3, 6, 1);
        due("STOCK of one that it is", 64, just.gives(10));
        sentence("19: which no WORK needs it SURE of");
        say(just, 2, "work 0 doubts 6;");
        due("one that needs doubt", 64, just.gives(10));
        say(just, 2, "work 0 sure 6;");
        due("one that needs it", NONE, just.gives(10));
        just.set(3, 5, 1);
        due("another", 32, just.gives(10));
        PlantedDoubts two = with(2);
        two.set(0, 0, 0);
        two.tell(0, 0, 90);
        two.tell(1, 0, 90);
        two.set(3, 0, 2);
        say(two, 2, "work 0 sure 1;work 1 sure 2;");
        due("works of other THINGS", 2, two.gives(0));
        say(two, 2, "work 1 sure 0;");
        due("of the other HOUSE", NONE, two.gives(0));
        due("of the other HOUSE", NONE, two.gives(10));
        sentence("19: of a THING STOCK at most for all");
        for (int stock = 0; stock <= 5; stock++) {
            for (int houses = Math.max(1, stock); houses <= Math.min(8, stock + 1); houses++) {
                PlantedDoubts x = with(8);
                x.set(0, 0, 0);
                x.set(3, 7, stock);
                for (int h = 0; h < houses; h++) x.tell(h, 7, 90);
                due("STOCK " + stock + " for " + houses, houses <= stock ? houses : NONE, x.gives(0));
                due("STOCK " + stock + " for " + houses, houses <= stock ? 128 : NONE, x.gives(10));
            }
        }
    }

    private static void givesTheFirstWay() {
        sentence("19: of several ways the first (HOUSE by HOUSE, the least set)");
        PlantedDoubts x = with(3);
        x.set(0, 0, 1);
        sure(x, 0, 0, 1);
        sure(x, 1, 0, 2);
        sure(x, 2, 0, 3);
        for (int t = 0; t < 4; t++) x.set(3, t, 1);
        int[] want = {1, 4, 8};
        for (int h = 0; h < 3; h++) due("each its own", want[h], x.gives(10 + h));
        x.set(3, 3, 0);
        int[] then = {2, 4, 1};
        for (int h = 0; h < 3; h++) due("the first gives way, for the last", then[h], x.gives(10 + h));
        x.set(3, 2, 0);
        due("not both", NONE, x.gives(0));
        x.set(3, 0, 2);
        int[] both = {2, 1, 1};
        for (int h = 0; h < 3; h++) due("two of them", both[h], x.gives(10 + h));
        PlantedDoubts y = with(1);
        y.set(0, 0, 1);
        sure(y, 0, 0, 3, 7);
        for (int t : new int[] {0, 3, 7}) y.set(3, t, 1);
        due("the least set is 1 and 8", 9, y.gives(10));
        y.set(3, 0, 0);
        due("then 8 and 128", 136, y.gives(10));
        PlantedDoubts z = with(2);
        z.set(0, 0, 2);
        sure(z, 0, 0, 1, 2, 7);
        sure(z, 1, 0, 1, 2);
        for (int t : new int[] {0, 1, 2, 7}) z.set(3, t, 1);
        due("3 is less than 129", 3, z.gives(10));
        due("what is left", 4, z.gives(11));
        say(z, 2, "work 1 sure 2;");
        due("then 5 is the least", 5, z.gives(10));
        due("what is left", 2, z.gives(11));
    }

    private static void done() {
        sentence("20: DONE: WORKS (sure: it is SURE; doubts: it is not) that are done now (a set)");
        due("no HOUSES", 0, with(0).done());
        PlantedDoubts x = with(8);
        due("no WORKS", 0, x.done());
        say(x, 2, "work 7 sure 7;work 7 doubts 7;work 0 sure 0;work 0 doubts 0;");
        int[][] all = {{89, 89, 10}, {90, 89, 9}, {89, 90, 6}, {90, 90, 5}, {100, 0, 9}};
        for (int[] a : all) {
            x.tell(7, 7, a[0]);
            x.tell(0, 0, a[1]);
            due("at " + a[0] + " and " + a[1], a[2], x.done());
        }
        say(x, 2, "work 1 sure 1;".repeat(11) + "work 1 doubts 1;");
        due("the twelfth", 1 << 11, x.done());
        x.tell(1, 1, 90);
        due("the first eleven", (1 << 11) - 1, x.done());
        x.text(2);
        due("none again", 0, x.done());
    }

    private static void strikes(String what, PlantedDoubts x, int sum, int set) {
        due(what + ": the sum", sum, x.struck(0, 0));
        due(what + ": the set", set, x.struck(0, 1));
    }

    private static void struck() {
        sentence("21: of THINGS that it is SURE of those to be struck so that no two left clash: the least sum of DEGREES");
        PlantedDoubts x = with(2);
        strikes("nothing clashes", x, 0, 0);
        say(x, 0, "0 clashes 7;");
        strikes("SURE of none", x, 0, 0);
        x.tell(0, 0, 90);
        x.tell(0, 7, 89);
        strikes("SURE of one alone", x, 0, 0);
        x.tell(0, 7, 90);
        strikes("of two alike the least set", x, 90, 1);
        x.tell(0, 0, 91);
        strikes("the lesser", x, 90, 128);
        due("the other HOUSE", 0, x.struck(1, 0));
        say(x, 0, "7 clashes 0;0 clashes 7;0 from 7 gives 1;");
        strikes("told the other way, and twice", x, 90, 128);
        say(x, 0, "0 from 7 gives 1;7 from 0 gives 1;");
        strikes("reasons are no clashes", x, 0, 0);
        sentence("21: the least sum of DEGREES; of several the least set");
        StringBuilder all = new StringBuilder();
        for (int t = 1; t < 8; t++) all.append("0 clashes ").append(t).append(";");
        say(x, 0, all.toString());
        for (int t = 0; t < 8; t++) x.tell(0, t, t == 0 ? 100 : 90);
        strikes("one for seven", x, 100, 1);
        x.tell(0, 2, 50);
        x.tell(0, 3, 50);
        for (int t = 4; t < 8; t++) x.tell(0, t, 0);
        x.tell(0, 1, 100);
        strikes("100 for 100: the least set", x, 100, 1);
        x.tell(0, 1, 99);
        strikes("99 for 100", x, 99, 2);
        PlantedDoubts y = with(1);
        say(y, 0, "0 clashes 1;0 clashes 2;0 clashes 3;1 clashes 2;1 clashes 3;2 clashes 3;");
        for (int t = 0; t < 4; t++) y.tell(0, t, 90);
        strikes("all but one: the least set", y, 270, 7);
        y.tell(0, 1, 91);
        strikes("all but the highest", y, 270, 13);
        PlantedDoubts z = with(1);
        say(z, 0, "0 clashes 1;1 clashes 2;2 clashes 3;3 clashes 4;4 clashes 5;5 clashes 6;6 clashes 7;7 clashes 0;");
        for (int t = 0; t < 8; t++) z.tell(0, t, 100);
        strikes("every other one", z, 400, 85);
    }

    private static void down() {
        sentence("22: THINGS that the HOUSE is SURE of, but that one, which then no longer stand");
        PlantedDoubts x = with(2);
        x.tell(0, 0, 90);
        due("no REASONS", 0, x.down(0, 0));
        due("the other HOUSE is not SURE of it", NONE, x.down(1, 0));
        say(x, 0, "1 from 0 gives 1;2 from 1 gives 1;3 from 2 gives 1;4 from 3 gives 1;5 from 4 gives 1;6 from 5 gives 1;7 from 6 gives 1;");
        due("it is SURE of none of them", 0, x.down(0, 0));
        for (int t = 0; t < 8; t++) x.tell(0, t, 90);
        for (int t = 0; t < 8; t++) due("all behind " + t, 255 & ~((2 << t) - 1), x.down(0, t));
        x.tell(0, 3, 89);
        due("broken at 3: what hangs on it stands not", 254 & ~8, x.down(0, 0));
        due("by the last", 112, x.down(0, 7));
        due("not SURE of it", NONE, x.down(0, 3));
        say(x, 0, "7 from 6 gives 1;6 from 5 gives 1;5 from 4 gives 1;4 from 3 gives 1;3 from 2 gives 1;2 from 1 gives 1;1 from 0 gives 1;");
        x.tell(0, 3, 90);
        for (int t = 0; t < 8; t++) due("told backwards, all behind " + t, 255 & ~((2 << t) - 1), x.down(0, t));
        sentence("22: no line of REASONS gives it, or one does all of whose THINGS stand (from nothing on; the one that is doubted stands not)");
        say(x, 0, "2 from 0 and 1 gives 1;2 from 3 gives 1;4 from 5 gives 1;5 from 4 gives 1;6 clashes 7;");
        due("another line gives it", 48, x.down(0, 0));
        due("a ring stands on nothing", 48, x.down(0, 3));
        due("but for the doubted one", 32, x.down(0, 4));
        x.tell(0, 3, 89);
        due("that line falls", 52, x.down(0, 0));
        due("both of the line are needed", 52, x.down(0, 1));
        due("a clash gives nothing", 48, x.down(0, 6));
        say(x, 0, "2 from 3 gives 1;");
        due("from one it is not SURE of", 4, x.down(0, 0));
        say(x, 0, "0 from 7 gives 1;6 from 5 gives 1;6 clashes 4;");
        due("the least THING falls, too", 1, x.down(0, 7));
        due("what clashes with one that stands is not given by it", 64, x.down(0, 5));
    }

    private static void by() {
        sentence("23: BY of a HOUSE and a THING: the fewest LINES from a HOUSE that has a POT of it (0: itself)");
        PlantedDoubts x = with(8);
        for (int h = 0; h < 7; h++) x.line(h, h + 1, true);
        x.pot(7, 7, 0);
        x.pot(0, 0, 0);
        for (int h = 0; h < 8; h++) {
            due("from the last", 7 - h, x.by(h, 7));
            due("from the first", h, x.by(h, 0));
            due("by none", NONE, x.by(h, 3));
        }
        x.line(0, 7, true);
        due("the shorter way", 1, x.by(0, 7));
        due("the shorter way", 4, x.by(3, 7));
        x.weed(7);
        due("gone", NONE, x.by(0, 7));
        x.pot(7, 0, 0);
        due("the nearer of two", 0, x.by(7, 0));
        due("the nearer of two", 1, x.by(6, 0));
        due("the nearer of two", 3, x.by(4, 0));
        PlantedDoubts y = with(2);
        y.pot(1, 4, 0);
        due("no LINE", NONE, y.by(0, 4));
        y.line(0, 1, true);
        due("one LINE", 1, y.by(0, 4));
        y.line(0, 1, false);
        due("no longer", NONE, y.by(0, 4));
    }

    private static void part() {
        sentence("24: PART of two HOUSES: the fewest LINES that must go so that none leads from one to the other by others");
        PlantedDoubts two = with(2);
        due("no LINE", 0, two.part(0, 1));
        two.line(0, 1, true);
        due("one LINE", 1, two.part(0, 1));
        due("from the other", 1, two.part(1, 0));
        PlantedDoubts x = with(8);
        for (int a = 0; a < 8; a++) for (int b = a + 1; b < 8; b++) x.line(a, b, true);
        due("all LINES", 7, x.part(0, 7));
        due("all LINES", 7, x.part(7, 0));
        due("all LINES", 7, x.part(3, 4));
        for (int h = 1; h < 7; h++) {
            x.line(0, h, false);
            due("one less", 7 - h, x.part(0, 7));
            due("one less", 7 - h, x.part(5, 0));
        }
        x.line(0, 7, false);
        due("none", 0, x.part(0, 7));
        due("the others", 6, x.part(1, 7));
        PlantedDoubts ring = with(8);
        for (int h = 0; h < 8; h++) ring.line(h, (h + 1) % 8, true);
        due("a ring", 2, ring.part(0, 4));
        due("a ring", 2, ring.part(0, 1));
        ring.line(0, 4, true);
        due("and one across", 3, ring.part(0, 4));
        ring.line(6, 7, false);
        due("one less", 2, ring.part(0, 4));
        due("at an end", 1, ring.part(7, 4));
        PlantedDoubts apart = with(4);
        apart.line(0, 1, true);
        apart.line(2, 3, true);
        due("apart", 0, apart.part(0, 2));
    }

    private static void talks() {
        sentence("25: TALKS (house NONE: none is then): how many .. twelve");
        PlantedDoubts x = with(8);
        due("none is then, of none", 0, x.talk(NONE, 0, 0));
        for (int i = 1; i <= 12; i++) due("how many", i, x.talk(7 * (i % 2), 7 * (i / 2 % 2), i % 2));
        due("the 13th", NONE, x.talk(0, 0, 0));
        due("twelve", 12, x.look(10));
        due("none is then", 0, x.talk(NONE, 8, 2));
        due("none", 0, x.look(10));
        due("none", 93, x.fits(0, 0));
        due("one", 1, x.talk(0, 0, 0));
    }

    private static void fits() {
        sentence("26: FITS of a HOUSE .. : sets of MOST THINGS at most");
        int[] atMost = {1, 9, 37, 93, 163, 219, 247, 255, 256};
        for (int most = 0; most <= 8; most++) {
            PlantedDoubts x = with(1);
            x.set(0, 0, most);
            due("MOST " + most, atMost[most], x.fits(0, 0));
            due("MOST " + most, atMost[most], x.fits(0, 3));
        }
        sentence("26: who is SURE of a THING will not argue about it, who is not does");
        PlantedDoubts x = with(2);
        x.set(0, 0, 8);
        x.talk(0, 0, 0);
        due("it would not: SURE", 128, x.fits(0, 0));
        x.talk(0, 7, 1);
        due("it argued: not SURE", 64, x.fits(0, 0));
        due("the other HOUSE did not talk", 256, x.fits(1, 0));
        x.tell(0, 0, 0);
        due("DEGREES do not count", 64, x.fits(0, 0));
        x.talk(0, 0, 1);
        due("both can't be", 0, x.fits(0, 0));
        PlantedDoubts y = with(1);
        y.set(0, 0, 1);
        y.talk(0, 0, 0);
        y.talk(0, 1, 0);
        due("more than MOST", 0, y.fits(0, 0));
        y.set(0, 0, 2);
        due("just MOST", 1, y.fits(0, 0));
    }

    private static void errors() {
        sentence("26: but e of its TALKS may be otherwise (e 0 .. 3)");
        PlantedDoubts x = with(2);
        x.set(0, 0, 8);
        for (int t = 0; t < 8; t++) x.talk(0, t, t % 2);
        int[] want = {1, 9, 37, 93};
        for (int e = 0; e < 4; e++) due("errors " + e, want[e], x.fits(0, e));
        for (int i = 0; i < 4; i++) x.talk(0, 0, 0);
        int[] then = {1, 8, 29, 64};
        for (int e = 0; e < 4; e++) due("one that is said five times, errors " + e, then[e], x.fits(0, e));
        PlantedDoubts y = with(2);
        y.set(0, 0, 0);
        for (int i = 0; i < 4; i++) y.talk(0, 3, 0);
        y.talk(1, 3, 0);
        due("four against three", 0, y.fits(0, 3));
        due("of the other HOUSE one", 0, y.fits(1, 0));
        due("of the other HOUSE one", 1, y.fits(1, 1));
    }

    private static void ask() {
        sentence("27: ASK: the THING for which .. the greater number is least; of several the least; NONE if fewer than two sets FIT");
        PlantedDoubts x = with(1);
        x.set(0, 0, 8);
        due("all halve them", 0, x.ask(0, 0));
        for (int t = 0; t < 7; t++) {
            x.talk(0, t, t % 2);
            due("all up to " + t + " are known", t + 1, x.ask(0, 0));
        }
        due("two sets", 2, x.fits(0, 0));
        x.talk(0, 7, 0);
        due("one set", 1, x.fits(0, 0));
        due("one set", NONE, x.ask(0, 0));
        due("with an error nine", 0, x.ask(0, 1));
        due("with three errors", 0, x.ask(0, 3));
        x.talk(0, 7, 1);
        due("no set", 0, x.fits(0, 0));
        due("no set", NONE, x.ask(0, 0));
        due("two sets", 2, x.fits(0, 1));
        due("two sets", 7, x.ask(0, 1));
        PlantedDoubts y = with(1);
        y.set(0, 0, 0);
        due("MOST 0: one set", NONE, y.ask(0, 3));
        y.set(0, 0, 1);
        due("nine sets, each THING in one", 0, y.ask(0, 0));
        PlantedDoubts last = with(1);
        last.set(0, 0, 1);
        for (int t = 0; t < 7; t++) last.talk(0, t, 1);
        due("7 alone or none", 2, last.fits(0, 0));
        due("7 alone or none", 7, last.ask(0, 0));
        y.set(0, 0, 3);
        y.talk(0, 0, 1);
        y.talk(0, 0, 1);
        due("the greater number is less for the others", 1, y.ask(0, 0));
        due("one error is too few for 0", 1, y.ask(0, 1));
        due("two errors: alike again", 0, y.ask(0, 2));
        PlantedDoubts z = with(1);
        z.talk(0, 6, 0);
        due("those with 6: all others in 7 of 29, 6 in all", 0, z.ask(0, 0));
        z.talk(0, 7, 0);
        due("one error: 6 or 7, 29 of 51", 6, z.ask(0, 1));
    }

    private static void both(String what, PlantedDoubts x, int n, int least, int most) {
        due(what + ": the least", least, x.waters(0, n, 0));
        due(what + ": the most", most, x.waters(0, n, 1));
    }
    /** A POT of HEIGHT 10, and a POT that stays only while its WATER is within these. */
    private static PlantedDoubts between(int least, int most, int water) {
        PlantedDoubts x = with(1);
        x.pot(0, 0, 0);
        if (water > 0) x.water(0, water);
        say(x, 1, "grow 0-99 when water<" + least + " or water>" + most + ";grow 0;");
        return x;
    }

    private static void waters() {
        sentence("28: by how much (0 .. 40) it is to be WATERED each WEEK .. : the least, the most");
        both("all", between(0, 99, 0), 30, 0, 40);
        both("0 alone", between(0, 0, 0), 30, 0, 0);
        both("40 alone", between(40, 40, 0), 30, 40, 40);
        both("39 and 40", between(39, 99, 0), 1, 39, 40);
        both("41 can't be", between(41, 99, 0), 1, NONE, NONE);
        both("two alone", between(7, 8, 0), 30, 7, 8);
        sentence("28: (WATER now counts in the first)");
        both("30 and 11", between(41, 41, 30), 1, 11, 11);
        both("and no longer in the second", between(41, 41, 30), 2, NONE, NONE);
        both("59 and 40", between(99, 99, 59), 1, 40, 40);
        both("60: 99 at most", between(99, 99, 60), 1, 39, 40);
        both("99 at most", between(99, 99, 99), 1, 0, 40);
        sentence("28: so that it is there yet after n (1 .. 30) WEEKS of (c)");
        PlantedDoubts x = with(1);
        x.pot(0, 0, 0);
        both("10 less 5", x, 1, 0, 40);
        both("10 less 5 and 5", x, 2, 1, 40);
        both("30 WEEKS", x, 30, 5, 40);
        say(x, 1, "grow 0-9 when week<1;grow 0-1 when week=29;grow 0;");
        both("1 after 29", x, 29, 0, 40);
        both("0 after 30", x, 30, NONE, NONE);
        say(x, 1, "grow 0-water/2;");
        both("less by half of 19", x, 1, 0, 19);
        both("less by halves twice", x, 2, 0, 9);
        both("less by nothing", x, 30, 0, 1);
        say(x, 1, "grow 5 when water=40;grow 0-5 when water>2;grow 0-6;");
        both("not all between", x, 2, 40, 40);
        both("not all between", x, 1, 0, 40);
        say(x, 1, "grow 0 when water=3;grow 0 when water=30;grow 0-99;");
        both("with a gap", x, 30, 3, 30);
    }

    private static void watersAsTheyWouldBe() {
        sentence("28: (DEGREE, WATER, HEIGHT as they would be, WEEK too; sures as now)");
        PlantedDoubts x = with(2);
        x.line(0, 1, true);
        x.pot(0, 4, 6);
        x.tell(0, 4, 91);
        x.tell(0, 3, 90);
        say(x, 1, "lower 1;grow 0-99 when degree<89;grow 0;");
        both("DEGREE 91, 90, 89", x, 3, 0, 40);
        both("DEGREE 88", x, 4, NONE, NONE);
        say(x, 1, "grow 0-99 when height>98;grow 1;");
        both("HEIGHT 39 after 29", x, 29, 0, 40);
        say(x, 1, "grow 0-99 when height>38;grow 1;");
        both("HEIGHT 38 at the 29th", x, 29, 0, 40);
        both("HEIGHT 39 at the 30th", x, 30, NONE, NONE);
        say(x, 1, "grow 0-99 when height=99;grow 89;");
        both("HEIGHT 99 at most", x, 2, NONE, NONE);
        say(x, 1, "grow 0-99 when week>2;grow 0;");
        both("WEEK 0 to 2", x, 3, 0, 40);
        both("WEEK 3", x, 4, NONE, NONE);
        x.weeks(1);
        both("WEEK 1 to 3", x, 3, NONE, NONE);
        say(x, 1, "lower 100;grow 0-99 when not sures=" + Integer.bitCount(x.of(0, 4)) + ";grow 0;");
        both("sures as now", x, 30, 0, 40);
        say(x, 1, "grow 0-99 when not tender=6 or not lines=1 or not thing=4;grow 0;");
        both("the rest as it is", x, 30, 0, 40);
        say(x, 0, "7 from 3 gives 50;");
        say(x, 3, "on 1 weed 0;");
        both("of (c) alone: no PLAN", x, 30, 0, 40);
    }

    private static void plays(String what, int house, int leaves, int... high) {
        PlantedDoubts x = with(Math.max(1, high.length));
        heights(x, high);
        due(what + ": the HOUSE", house, x.game(0));
        due(what + ": what he leaves", leaves, x.game(1));
    }

    private static void game() {
        sentence("29: the HOUSE (of several the least) whose POT who begins cuts, and the HEIGHT he leaves; NONE if who begins loses");
        plays("no POTS", NONE, NONE);
        plays("one", 0, 0, 1);
        plays("one", 0, 0, 99);
        plays("the last HOUSE", 7, 0, 0, 0, 0, 0, 0, 0, 0, 50);
        plays("two alike", NONE, NONE, 99, 99);
        plays("eight alike", NONE, NONE, 99, 99, 99, 99, 99, 99, 99, 99);
        plays("two unlike", 0, 98, 99, 98);
        plays("two unlike", 1, 1, 1, 99);
        plays("1, 2, 3", NONE, NONE, 1, 2, 3);
        plays("1, 2, 4", 2, 3, 1, 2, 4);
        plays("of several the least", 0, 0, 5, 5, 5);
        plays("of several the least", 1, 4, 4, 12, 12, 0, 8, 8, 0, 12);
    }

    private static void holds(int c, int want, int... high) {
        PlantedDoubts x = with(8);
        heights(x, high);
        due("greenhouses of " + c, want, x.greenhouses(c));
    }

    private static void greenhouses() {
        sentence("30: GREENHOUSES that hold HEIGHTS of c (1 .. 999) together: the fewest for all POTS (each in one)");
        PlantedDoubts none = with(0);
        due("no POTS", 0, none.greenhouses(1));
        due("no POTS", 0, none.greenhouses(999));
        due("0", NONE, none.greenhouses(0));
        due("1000", NONE, none.greenhouses(1000));
        holds(1, 8, 1, 1, 1, 1, 1, 1, 1, 1);
        holds(2, 4, 1, 1, 1, 1, 1, 1, 1, 1);
        holds(7, 2, 1, 1, 1, 1, 1, 1, 1, 1);
        holds(8, 1, 1, 1, 1, 1, 1, 1, 1, 1);
        holds(999, 1, 99, 99, 99, 99, 99, 99, 99, 99);
        holds(792, 1, 99, 99, 99, 99, 99, 99, 99, 99);
        holds(791, 2, 99, 99, 99, 99, 99, 99, 99, 99);
        holds(197, 8, 99, 99, 99, 99, 99, 99, 99, 99);
        holds(198, 4, 99, 99, 99, 99, 99, 99, 99, 99);
        holds(99, 8, 99, 99, 99, 99, 99, 99, 99, 99);
        sentence("30: NONE if one POT is too high");
        holds(98, NONE, 99, 99, 99, 99, 99, 99, 99, 99);
        holds(98, NONE, 0, 0, 0, 0, 0, 0, 0, 99);
        holds(99, 1, 0, 0, 0, 0, 0, 0, 0, 99);
        holds(1, NONE, 1, 2);
        sentence("30: the fewest");
        holds(10, 3, 4, 4, 4, 6, 6, 6);
        holds(10, 3, 5, 5, 4, 3, 3, 6, 4);
        holds(12, 3, 6, 5, 4, 4, 3, 3, 5, 6);
        holds(11, 4, 6, 5, 4, 4, 3, 3, 5, 6);
    }
}
