/** One part for each promise of the document: ordinary inputs, the edges it names, and wrong inputs. */
public final class PromisesTest {
    private static final int NONE = PlantedDoubts.NONE;
    private static int wrong = 0;
    private static int promise = 0;
    private static int asked = 0;

    private static void due(String what, long want, long got) {
        asked++;
        if (got != want) {
            wrong++;
            System.out.println("promise " + promise + ": " + what + " answered " + got + ", due is " + want);
        }
    }
    private static void yes(String what, boolean got) { due(what, 1, got ? 1 : 0); }
    private static void no(String what, boolean got) { due(what, 0, got ? 1 : 0); }

    private static PlantedDoubts with(int houses) {
        PlantedDoubts x = new PlantedDoubts();
        for (int i = 0; i < houses; i++) x.house();
        return x;
    }
    private static void feed(PlantedDoubts x, String t) {
        for (int i = 0; i < t.length(); i += 20) {
            int[] w = new int[5];
            for (int j = 0; j < 20; j++) w[j / 4] = w[j / 4] << 8 | (i + j < t.length() ? t.charAt(i + j) : 32);
            x.feed(w[0], w[1], w[2], w[3], w[4]);
        }
        x.end(t.length());
    }
    private static int say(PlantedDoubts x, int k, String t) { feed(x, t); return x.text(k); }
    private static void said(PlantedDoubts x, int k, String t, int lines) {
        due("text(" + k + ") of \"" + t + "\"", lines, say(x, k, t));
        due("its fault", 0, x.fault(0));
        due("its place", NONE, x.fault(1));
    }
    private static void bad(PlantedDoubts x, int k, String t, int fault, int place) {
        int lines = x.look(6 + k);
        due("text(" + k + ") of \"" + t + "\"", NONE, say(x, k, t));
        due("the fault of \"" + t + "\"", fault, x.fault(0));
        due("the place of \"" + t + "\"", place, x.fault(1));
        due("the text after a fault", lines, x.look(6 + k));
    }
    private static void sure(PlantedDoubts x, int house, int... things) { for (int t : things) x.tell(house, t, 95); }

    public static void main(String[] args) {
        for (promise = 1; promise <= 33; promise++) run(promise);
        System.out.println(asked + " answers asked, " + wrong + " not as due");
        if (wrong != 0) System.exit(1);
    }

    private static void run(int p) {
        switch (p) {
            case 1: newObject(); break;
            case 2: state(); break;
            case 3: house(); break;
            case 4: set(); break;
            case 5: line(); break;
            case 6: feed(); break;
            case 7: end(); break;
            case 8: text(); break;
            case 9: fault(); break;
            case 10: pot(); break;
            case 11: water(); break;
            case 12: weed(); break;
            case 13: tell(); break;
            case 14: weeks(); frostAndBees(); break;
            case 15: of(); law(); break;
            case 16: reason(); break;
            case 17: book(); break;
            case 18: first(); break;
            case 19: gives(); break;
            case 20: done(); break;
            case 21: struck(); break;
            case 22: down(); break;
            case 23: by(); break;
            case 24: part(); break;
            case 25: talk(); break;
            case 26: fits(); break;
            case 27: ask(); break;
            case 28: waters(); break;
            case 29: game(); break;
            case 30: greenhouses(); break;
            case 31: undo(); break;
            case 32: image(); break;
            default: look();
        }
    }

    private static void newObject() {
        PlantedDoubts x = new PlantedDoubts();
        int[] want = {0, 0, 0, 0, 0, 0, 0, 0, 0, 0, 0, 0, 3, 0, 0};
        for (int i = 0; i < want.length; i++) due("look(" + i + ")", want[i], x.look(i));
        due("first(60, 2)", 0, x.first(60, 2));
        due("gives(0)", 0, x.gives(0));
        no("image(false)", x.image(false));
        no("undo()", x.undo());
        PlantedDoubts y = new PlantedDoubts();
        x.house();
        due("another object's houses", 0, y.look(0));
    }

    private static void state() {
        PlantedDoubts x = with(0);
        due("state(7)", 0, x.state(7));
        due("state(min)", 7, x.state(Integer.MIN_VALUE));
        due("look(5)", Integer.MIN_VALUE, x.look(5));
        due("state(-1)", Integer.MIN_VALUE, x.state(-1));
        due("look(5)", -1, x.look(5));
        x.set(1, 0, 1);
        x.weeks(1);
        due("a DRAW of -1", 1664525 * -1 + 1013904223, x.look(5));
    }

    private static void house() {
        PlantedDoubts x = with(0);
        for (int i = 0; i < 8; i++) due("house()", i, x.house());
        due("the ninth", NONE, x.house());
        due("look(0)", 8, x.look(0));
        due("of(7, 17)", 50, x.of(7, 17));
        due("of(7, 0)", NONE, x.of(7, 0));
    }

    private static void set() {
        PlantedDoubts x = with(0);
        yes("MOST 0", x.set(0, 99, 0));
        yes("MOST 8", x.set(0, -5, 8));
        no("MOST 9", x.set(0, 0, 9));
        no("MOST -1", x.set(0, 0, -1));
        due("look(12)", 8, x.look(12));
        yes("FROST 1000", x.set(1, -1, 1000));
        no("FROST 1001", x.set(1, 0, 1001));
        no("FROST -1", x.set(1, 0, -1));
        due("look(13)", 1000, x.look(13));
        yes("BEES 1000", x.set(2, 8, 1000));
        no("BEES 1001", x.set(2, 0, 1001));
        no("BEES -1", x.set(2, 0, -1));
        due("look(14)", 1000, x.look(14));
        yes("STOCK 7", x.set(3, 7, 5));
        no("STOCK of 8", x.set(3, 8, 1));
        no("STOCK of -1", x.set(3, -1, 1));
        no("STOCK 6", x.set(3, 0, 6));
        no("STOCK -1", x.set(3, 0, -1));
        due("look(27)", 5, x.look(27));
        due("look(20)", 0, x.look(20));
        no("what 4", x.set(4, 0, 0));
        no("what -1", x.set(-1, 0, 0));
    }

    private static void line() {
        PlantedDoubts x = with(3);
        yes("line", x.line(0, 2, true));
        due("of(0, 5)", 4, x.of(0, 5));
        due("of(2, 5)", 1, x.of(2, 5));
        due("of(1, 5)", 0, x.of(1, 5));
        no("alike", x.line(1, 1, true));
        no("no such", x.line(0, 3, true));
        no("no such", x.line(-1, 0, true));
        yes("again", x.line(2, 0, true));
        yes("away", x.line(2, 0, false));
        due("of(0, 5)", 0, x.of(0, 5));
        due("of(2, 5)", 0, x.of(2, 5));
        yes("away again", x.line(2, 0, false));
    }

    private static void feed() {
        PlantedDoubts x = with(0);
        for (int i = 1; i <= 20; i++) due("feed", 20 * i, x.feed(0x20202020, 0x20202020, 0x20202020, 0x20202020, 0x20202020));
        due("the 401st", NONE, x.feed(1, 1, 1, 1, 1));
        yes("end(400)", x.end(400));
        due("text(0) of blanks", 0, x.text(0));
        due("feed", 20, x.feed(0x30206672, 0x6f6d2031, 0x20676976, 0x65732032, 0x3b202020));
        due("highest first", 1, x.text(0));
        due("reason(0, 2)", 2, x.reason(0, 2));
        x.feed(0x20202020, 0x20202020, 0x20202020, 0x20202020, 0x202020ff);
        due("a byte that is none", NONE, x.text(0));
        due("its place", 19, x.fault(1));
        for (int i = 1; i <= 20; i++) x.feed(0x20202020, 0x20202020, 0x20202020, 0x20202020, 0x20202020);
        yes("end(381)", x.end(381));
        due("381 and 20", NONE, x.feed(0, 0, 0, 0, 0));
        yes("end(380)", x.end(380));
        due("380 and 20", 400, x.feed(0, 0, 0, 0, 0));
    }

    private static void end() {
        PlantedDoubts x = with(0);
        yes("end(0)", x.end(0));
        no("end(1)", x.end(1));
        no("end(-1)", x.end(-1));
        feed(x, "0 clashes 1;0 clashes 2;");
        no("more than there is", x.end(25));
        no("below 0", x.end(-1));
        yes("half", x.end(12));
        no("what is gone", x.end(13));
        due("text(0)", 1, x.text(0));
    }

    private static void text() {
        PlantedDoubts x = with(2);
        said(x, 0, "2 from 0 and 1 gives 30;4 clashes 0;", 2);
        said(x, 1, "grow 1;lower 2 when week>3;seed 4;", 3);
        said(x, 2, "work 0 sure 1;work 1 doubts 7;", 2);
        said(x, 3, "on 0 pot 0 of 7 tender 9;on 999 water 1 by 99;on 5 weed 0;on 6 tell 1 of 0 to 100;", 4);
        due("look(6)", 2, x.look(6));
        due("look(7)", 3, x.look(7));
        due("look(8)", 2, x.look(8));
        due("look(9)", 4, x.look(9));
        bad(x, 0, "2 from", 1, 6);
        due("the tape is empty then", 20, x.feed(0, 0, 0, 0, 0));
        due("no such text", NONE, x.text(4));
        due("fault 0 then", 0, x.fault(0));
        due("its place then", NONE, x.fault(1));
        due("no such text", NONE, x.text(-1));
        for (int k = 0; k < 4; k++) {
            due("an empty text", 0, x.text(k));
            due("look", 0, x.look(6 + k));
        }
        said(x, 0, "2from 0and 1gives 30;\n4\nclashes\n0 ;  ", 2);
        said(x, 0, "0002 from 0000 gives 0100;", 1);
        said(x, 0, "2 from 0 and 0 gives 1;", 1);
        due("one told twice", 1, x.reason(0, 1));
        said(x, 1, "grow 1when(1<2)and not 3=4or 5>6;", 1);
        said(x, 1, "grow 9999*height/9999-tender+water*degree*thing/1-week*sures+lines;", 1);
        said(x, 1, "grow 1 when ((((((((1=1))))))));", 1);
        said(x, 1, "grow 1 when not not not not not not not not 1=1 and not not not not not not not not 1=1;", 1);
        said(x, 1, "grow 1 when (not (not (not (not 1=1)))) or (not (not (not (not 1=1))));", 1);
        said(x, 1, "grow 1" + "-1".repeat(196) + ";", 1);
        x.pot(0, 0, 0);
        due("all of it", -99, x.of(0, 6));
        said(x, 1, "grow 0" + "+1".repeat(90) + " when " + "0=1 or ".repeat(29) + "1=1;", 1);
        due("all of it", 90, x.of(0, 6));
        said(x, 1, "seed 1;".repeat(16), 16);
        said(x, 0, "0 clashes 1;".repeat(16), 16);
        said(x, 2, "work 0 sure 0;".repeat(12), 12);
        said(x, 3, "on 0 weed 0;".repeat(16), 16);
    }

    private static void fault() {
        PlantedDoubts x = with(2);
        due("before any text", 0, x.fault(0));
        due("before any text", NONE, x.fault(1));
        due("what 2", NONE, x.fault(2));
        due("what -1", NONE, x.fault(-1));
        // An object is promised for 512 calls: each part has its own.
        reasonFaults(with(2));
        lawFaults(with(2));
        conditionFaults(with(2));
        workAndPlanFaults(with(2));
    }

    private static void reasonFaults(PlantedDoubts x) {
        bad(x, 0, "8 from 0 gives 1;", 2, 0);
        bad(x, 0, "0 from 8 gives 1;", 2, 7);
        bad(x, 0, "0 from 0 gives 1;", 2, 7);
        bad(x, 0, "0 from 1 and 0 gives 1;", 2, 13);
        bad(x, 0, "0 from 1 and 8 gives 1;", 2, 13);
        bad(x, 0, "0 clashes 0;", 2, 10);
        bad(x, 0, "0 clashes 8;", 2, 10);
        bad(x, 0, "0 clashes 1 gives 1;", 1, 12);
        bad(x, 0, "0 from 1 gives 0;", 2, 15);
        bad(x, 0, "0 from 1 gives 101;", 2, 15);
        bad(x, 0, "0 from 1 gives 00001;", 1, 15);
        bad(x, 0, "0 from 1 gives 1", 1, 16);
        bad(x, 0, "0 from 1 gives 1  ", 1, 18);
        bad(x, 0, "0 from 1 gives 1;;", 1, 17);
        bad(x, 0, "0 gives 1;", 1, 2);
        bad(x, 0, "0 From 1 gives 1;", 1, 2);
        bad(x, 0, "0 fromX 1 gives 1;", 1, 2);
        bad(x, 0, "0 from\t1 gives 1;", 1, 6);
        bad(x, 0, "0 from 1 or 2 gives 1;", 1, 9);
        bad(x, 0, "grow 1;", 1, 0);
        bad(x, 0, "  x", 1, 2);
        bad(x, 0, "0 clashes 1;".repeat(16) + " 0 clashes 1;", 3, 193);
        bad(x, 0, "0 clashes 1;".repeat(16) + "8 clashes 1;", 2, 192);
        bad(x, 0, "0 clashes 1;".repeat(16) + "x clashes 1;", 1, 192);
        bad(x, 0, "0 clashes 1;".repeat(16) + ";", 1, 192);
    }

    private static void lawFaults(PlantedDoubts x) {
        bad(x, 1, "grow;", 1, 4);
        bad(x, 1, "grow 1", 1, 6);
        bad(x, 1, "lower x;", 1, 6);
        bad(x, 1, "seed 1/0;", 2, 7);
        bad(x, 1, "seed 1/0000;", 2, 7);
        bad(x, 1, "seed 1/height;", 1, 7);
        bad(x, 1, "seed 1*;", 1, 7);
        bad(x, 1, "seed 1+-1;", 1, 7);
        bad(x, 1, "seed -1;", 1, 5);
        bad(x, 1, "seed (1);", 1, 5);
        bad(x, 1, "seed 12345;", 1, 5);
        bad(x, 1, "growth 1;", 1, 0);
        bad(x, 1, "gro 1;", 1, 0);
        for (String letter : new String[] {"a", "z", "A", "Z"}) bad(x, 1, "grow" + letter + " 1;", 1, 0);
        for (String sign : new String[] {"`", "{", "@", "[", "_", ".", ",", "\u00e9", "\u0000", "\r"}) bad(x, 1, "grow" + sign + " 1;", 1, 4);
        bad(x, 1, ";".repeat(400), 1, 0);
        bad(x, 1, "grow 1" + "+1".repeat(197), 1, 400);
        bad(x, 1, "height 1;", 1, 0);
    }

    private static void conditionFaults(PlantedDoubts x) {
        bad(x, 1, "grow 1 when;", 1, 11);
        bad(x, 1, "grow 1 when 1;", 1, 13);
        bad(x, 1, "grow 1 when 1<2<3;", 1, 15);
        bad(x, 1, "grow 1 when (1<2;", 1, 16);
        bad(x, 1, "grow 1 when 1<2);", 1, 15);
        bad(x, 1, "grow 1 when (1)<2;", 1, 14);
        bad(x, 1, "grow 1 when ();", 1, 13);
        bad(x, 1, "grow 1 when not;", 1, 15);
        bad(x, 1, "grow 1 when 1<2 and;", 1, 19);
        bad(x, 1, "grow 1 when 1<2 and or 1<2;", 1, 20);
        bad(x, 1, "grow 1 when 1<2 not 1<2;", 1, 16);
        bad(x, 1, "grow 1 when 1<2 when 1<2;", 1, 16);
        bad(x, 1, "grow 1 when 1<2 and (1=1 or not 2/0=1);", 2, 34);
        bad(x, 1, "grow 1 when (((((((((1=1;", 3, 20);
        bad(x, 1, "grow 1 when ((((not not (not 1=1;", 1, 32);
        bad(x, 1, "grow 1 when ((((not not (not not 1=1;", 3, 29);
        bad(x, 1, "grow 1 when (1=1) and ((((((((1=1)))))))) and not ((((((((1=1;", 3, 57);
        bad(x, 1, "seed 1;".repeat(16) + "grow 1;", 3, 112);
        bad(x, 1, "seed 1;".repeat(16) + "when 1;", 1, 112);
        bad(x, 1, "seed 1;".repeat(16) + "  grow", 3, 114);
    }

    private static void workAndPlanFaults(PlantedDoubts x) {
        bad(x, 2, "work 2 sure 0;", 2, 5);
        bad(x, 2, "work 0 sure 8;", 2, 12);
        bad(x, 2, "work 0 knows 0;", 1, 7);
        bad(x, 2, "work 0 from 0;", 1, 7);
        bad(x, 2, "work;", 1, 4);
        bad(x, 2, "work 0 sure 0", 1, 13);
        bad(x, 2, "sure 0;", 1, 0);
        bad(x, 2, "work 0 sure 0;".repeat(12) + "work 0 sure 0;", 3, 168);
        bad(x, 2, "work 0 sure 0;".repeat(12) + "0", 1, 168);
        bad(x, 3, "on 1000 weed 0;", 2, 3);
        bad(x, 3, "on 10000 weed 0;", 1, 3);
        bad(x, 3, "on 1 weed 2;", 2, 10);
        bad(x, 3, "on 1 water 2 by 1;", 2, 11);
        bad(x, 3, "on 1 tell 2 of 0 to 1;", 2, 10);
        bad(x, 3, "on 1 pot 2 of 0 tender 1;", 2, 9);
        bad(x, 3, "on 1 pot 0 of 8 tender 1;", 2, 14);
        bad(x, 3, "on 1 pot 0 of 0 tender 10;", 2, 23);
        bad(x, 3, "on 1 pot 0 of 0 to 1;", 1, 16);
        bad(x, 3, "on 1 pot 0 by 0 tender 1;", 1, 11);
        bad(x, 3, "on 1 water 0 by 0;", 2, 16);
        bad(x, 3, "on 1 water 0 by 100;", 2, 16);
        bad(x, 3, "on 1 water 0 of 1;", 1, 13);
        bad(x, 3, "on 1 tell 0 of 8 to 1;", 2, 15);
        bad(x, 3, "on 1 tell 0 of 0 to 101;", 2, 20);
        bad(x, 3, "on 1 tell 0 of 0 tender 1;", 1, 17);
        bad(x, 3, "on 1 weed 0 by 1;", 1, 12);
        bad(x, 3, "on 1 grow 0;", 1, 5);
        bad(x, 3, "on pot 0;", 1, 3);
        bad(x, 3, "pot 0;", 1, 0);
        bad(x, 3, "on 0 weed 0;".repeat(16) + "on 0 weed 0;", 3, 192);
        bad(x, 3, "on 0 weed 0;".repeat(16) + "pot", 1, 192);
        PlantedDoubts y = with(0);
        bad(y, 2, "work 0 sure 0;", 2, 5);
        bad(y, 3, "on 0 weed 0;", 2, 10);
    }

    private static void pot() {
        PlantedDoubts x = with(2);
        yes("pot", x.pot(1, 7, 9));
        due("thing", 7, x.of(1, 0));
        due("height", 10, x.of(1, 1));
        due("tender", 9, x.of(1, 2));
        due("water", 0, x.of(1, 3));
        no("a second", x.pot(1, 0, 0));
        no("no such house", x.pot(2, 0, 0));
        no("no such house", x.pot(-1, 0, 0));
        no("no such thing", x.pot(0, 8, 0));
        no("no such thing", x.pot(0, -1, 0));
        no("too tender", x.pot(0, 0, 10));
        no("too hardy", x.pot(0, 0, -1));
        due("pots", 1, x.look(3));
        due("what can be undone", 1, x.look(11));
        due("lines of the book", 1, x.look(4));
        x.water(1, 50);
        x.weed(1);
        yes("anew", x.pot(1, 2, 0));
        due("water anew", 0, x.of(1, 3));
        due("tender anew", 0, x.of(1, 2));
    }

    private static void water() {
        PlantedDoubts x = with(1);
        no("no pot", x.water(0, 5));
        x.pot(0, 0, 0);
        no("0", x.water(0, 0));
        no("100", x.water(0, 100));
        no("no such house", x.water(1, 1));
        no("no such house", x.water(-1, 1));
        yes("1", x.water(0, 1));
        yes("59", x.water(0, 59));
        due("water", 60, x.of(0, 3));
        yes("60 more", x.water(0, 60));
        due("99 at most", 99, x.of(0, 3));
        yes("99", x.water(0, 99));
        due("what can be undone", 5, x.look(11));
        due("lines of the book", 1, x.look(4));
    }

    private static void weed() {
        PlantedDoubts x = with(1);
        no("no pot", x.weed(0));
        no("no such house", x.weed(1));
        no("no such house", x.weed(-1));
        x.pot(0, 3, 0);
        yes("weed", x.weed(0));
        due("thing", NONE, x.of(0, 0));
        due("height", 0, x.of(0, 1));
        due("tender", NONE, x.of(0, 2));
        due("water", 0, x.of(0, 3));
        due("what", 1, x.book(1, 1));
        due("of which thing", 3, x.book(1, 3));
        due("degrees stay", 50, x.of(0, 13));
    }

    private static void tell() {
        PlantedDoubts x = with(1);
        yes("100", x.tell(0, 7, 100));
        due("degree", 100, x.of(0, 17));
        yes("0", x.tell(0, 7, 0));
        due("degree", 0, x.of(0, 17));
        no("101", x.tell(0, 7, 101));
        no("-1", x.tell(0, 7, -1));
        no("no such thing", x.tell(0, 8, 1));
        no("no such thing", x.tell(0, -1, 1));
        no("no such house", x.tell(1, 0, 1));
        no("no such house", x.tell(-1, 0, 1));
        x.tell(0, 0, 90);
        x.tell(0, 1, 89);
        due("sure from 90 on", 1, x.of(0, 4));
        due("the book is silent", 0, x.look(4));
    }

    private static void weeks() {
        PlantedDoubts x = with(2);
        due("0", NONE, x.weeks(0));
        due("61", NONE, x.weeks(61));
        due("-1", NONE, x.weeks(-1));
        due("week", 0, x.look(1));
        x.set(0, 0, 1);
        sure(x, 0, 0, 1);
        sure(x, 1, 5, 6, 7);
        due("two houses, three weeks", 6, x.weeks(3));
        due("all breaches", 6, x.look(2));
        due("two more", 2, x.weeks(1));
        due("all breaches", 8, x.look(2));
        for (int i = 0; i < 16; i++) x.weeks(60);
        due("week", 964, x.look(1));
        due("36 more are above 999", NONE, x.weeks(36));
        due("week", 964, x.look(1));
        due("35 more", 70, x.weeks(35));
        due("week", 999, x.look(1));
        due("one more", NONE, x.weeks(1));

        PlantedDoubts y = with(2);
        said(y, 3, "on 1 pot 0 of 2 tender 3;on 1 pot 0 of 4 tender 0;on 1 water 0 by 20;on 1 water 1 by 5;on 0 tell 1 of 6 to 90;on 2 weed 1;on 2 weed 0;", 7);
        y.weeks(1);
        due("told", 90, y.of(1, 16));
        due("not potted yet", NONE, y.of(0, 0));
        y.weeks(1);
        due("potted once", 2, y.of(0, 0));
        due("tender", 3, y.of(0, 2));
        due("watered ahead of (c)", 25, y.of(0, 1));
        due("lowered by 10 / 10", 49, y.of(0, 12));
        due("water is 0", 0, y.of(0, 3));
        y.weeks(1);
        due("weeded", NONE, y.of(0, 0));

        PlantedDoubts z = with(1);
        said(z, 0, "1 from 0 gives 45;2 from 1 gives 30;1 clashes 2;0 from 2 gives 9;2 from 0 and 1 gives 15;", 5);
        z.tell(0, 0, 90);
        due("a week", 0, z.weeks(1));
        due("given", 95, z.of(0, 11));
        due("by the lines ahead", 95, z.of(0, 12));
        due("not by those behind", 90, z.of(0, 10));
        z.weeks(1);
        due("100 at most", 100, z.of(0, 11));
        due("by the line ahead", 99, z.of(0, 10));

        PlantedDoubts w = with(1);
        w.pot(0, 0, 0);
        w.weeks(1);
        due("5 less", 5, w.of(0, 1));
        w.weeks(1);
        due("wilted", NONE, w.of(0, 0));
        due("what", 2, w.book(1, 1));
        due("when", 1, w.book(1, 0));
        w.pot(0, 0, 0);
        w.water(0, 99);
        w.weeks(1);
        w.water(0, 99);
        w.weeks(1);
        due("99 at most", 99, w.of(0, 1));
        w.tell(0, 0, 4);
        w.weeks(1);
        due("0 at least", 0, w.of(0, 10));
        said(w, 1, "lower height; grow 0 - height;", 2);
        w.tell(0, 0, 100);
        w.weeks(1);
        due("asked ahead of what it does", 6, w.of(0, 10));
        due("wilted at 0", NONE, w.of(0, 0));
    }

    private static void frostAndBees() {
        PlantedDoubts x = with(3);
        x.set(1, 0, 1000);
        x.pot(0, 1, 9);
        x.pot(2, 1, 0);
        x.state(0);
        x.weeks(1);
        int s = 0;
        for (int i = 0; i < 3; i++) s = 1664525 * s + 1013904223;
        due("one draw and one a pot", s, x.look(5));
        due("a hardy one stays", 1, x.of(2, 0));
        x.set(1, 0, 0);
        x.state(5);
        x.weeks(1);
        due("no frost, no draw", 5, x.look(5));

        PlantedDoubts f = with(2);
        said(f, 1, "grow 0;", 1);
        f.pot(1, 4, 9);
        f.set(1, 0, 1000);
        int want = 0;
        int week = 0;
        for (boolean there = true; there; week++) {
            want = 1664525 * want + 1013904223;
            want = 1664525 * want + 1013904223;
            there = (want >>> 8) % 10 == 9;
            f.weeks(1);
            due("state", want, f.look(5));
            due("there yet", there ? 4 : NONE, f.of(1, 0));
        }
        due("when", week - 1, f.book(1, 0));
        due("by frost", 3, f.book(1, 1));
        due("where", 1, f.book(1, 2));
        due("what", 4, f.book(1, 3));
        f.set(1, 0, 0);
        f.set(2, 0, 1);
        f.pot(0, 1, 1);
        said(f, 1, "grow 40;", 1);
        f.state(0);
        f.weeks(1);
        due("bees 1: a draw", 1013904223, f.look(5));

        PlantedDoubts y = with(4);
        y.set(2, 0, 1000);
        said(y, 1, "grow 40 when week<1;grow 0;seed height-49+water;", 3);
        y.line(1, 3, true);
        y.line(1, 2, true);
        y.line(0, 1, true);
        y.pot(0, 5, 2);
        y.pot(1, 6, 3);
        y.water(1, 9);
        y.state(0);
        y.weeks(1);
        s = 0;
        for (int i = 0; i < 2; i++) s = 1664525 * s + 1013904223;
        due("a draw for each that is 50 high", s, y.look(5));
        due("the least without a pot", 6, y.of(2, 0));
        due("seed, without the water", 1, y.of(2, 1));
        due("tender alike", 3, y.of(2, 2));
        due("water", 0, y.of(2, 3));
        due("none further", NONE, y.of(3, 0));
        due("by bees", 4, y.book(2, 1));
        due("where", 2, y.book(2, 2));
        due("what", 6, y.book(2, 3));
        y.weeks(1);
        due("the next", 6, y.of(3, 0));
        said(y, 1, "grow 0;seed 0-5;", 2);
        y.weed(3);
        int leaves = y.look(4);
        y.weeks(1);
        due("seed 0: none", NONE, y.of(3, 0));
        due("no line of the book", leaves, y.look(4));
        said(y, 1, "grow 0;seed 99;", 2);
        y.weed(2);
        y.weed(1);
        y.line(2, 3, true);
        y.state(0);
        y.weeks(1);
        due("carried", 5, y.of(1, 0));
        due("99 high", 99, y.of(1, 1));
        due("but not on in the same week", NONE, y.of(2, 0));
        due("one draw", 1013904223, y.look(5));
    }

    private static void of() {
        PlantedDoubts x = with(2);
        due("no such house", -1000, x.of(2, 0));
        due("no such house", -1000, x.of(-1, 10));
        due("what 9", -1000, x.of(0, 9));
        due("what 18", -1000, x.of(0, 18));
        due("what -1", -1000, x.of(0, -1));
        for (int w = 6; w <= 8; w++) due("law without a pot", -100, x.of(0, w));
        x.pot(0, 4, 6);
        due("grow", -5, x.of(0, 6));
        due("lower", 1, x.of(0, 7));
        due("seed", 10, x.of(0, 8));
        x.tell(0, 1, 90);
        x.tell(0, 7, 100);
        due("sure of", 130, x.of(0, 4));
        x.line(0, 1, true);
        due("lines", 2, x.of(0, 5));
    }

    private static int grow(PlantedDoubts x, String e) { say(x, 1, "grow " + e + ";"); return x.of(0, 6); }
    private static int when(PlantedDoubts x, String b) { say(x, 1, "grow 1 when " + b + ";grow 0;"); return x.of(0, 6); }

    private static void law() {
        PlantedDoubts x = with(3);
        x.line(0, 1, true);
        x.line(0, 2, true);
        x.weeks(7);
        x.tell(0, 5, 97);
        x.tell(0, 2, 92);
        x.tell(0, 3, 92);
        x.pot(0, 5, 4);
        x.water(0, 12);
        String[] words = {"height", "tender", "water", "degree", "thing", "week", "sures", "lines"};
        int[] worth = {10, 4, 12, 97, 5, 7, 3, 2};
        for (int i = 0; i < 8; i++) due(words[i], worth[i], grow(x, words[i]));
        due("product ahead of sum", 14, grow(x, "2+3*4"));
        due("from the left", 5, grow(x, "10-3-2"));
        due("from the left", 15, grow(x, "10/3*5"));
        due("the quotient ahead of the difference", -3, grow(x, "0-7/2*1"));
        due("held", 99, grow(x, "9999"));
        due("held", -99, grow(x, "0-9999"));
        due("wraps", 9999 * 9999 * 9999 < 0 ? -99 : 99, grow(x, "9999*9999*9999"));
        due("wraps below 0, and parts of that towards 0", -20, grow(x, "9999*9999*22/9999/9999"));
        say(x, 1, "lower 0-1;seed 0-1;");
        due("lower at least 0", 0, x.of(0, 7));
        due("seed at least 0", 0, x.of(0, 8));
        say(x, 1, "lower 200;seed 200;");
        due("lower at most 100", 100, x.of(0, 7));
        due("seed at most 99", 99, x.of(0, 8));
        due("grow stays", 7, x.of(0, 6));
        due("<", 1, when(x, "1<2"));
        due("<", 0, when(x, "2<2"));
        due("=", 1, when(x, "2=2"));
        due("=", 0, when(x, "1=2"));
        due(">", 1, when(x, "3>2"));
        due(">", 0, when(x, "2>2"));
        due("and ahead of or", 1, when(x, "1=1 or 1=2 and 1=2"));
        due("and ahead of or", 1, when(x, "1=2 and 1=2 or 1=1"));
        due("brackets", 0, when(x, "(1=1 or 1=2) and 1=2"));
        due("not of a C alone", 0, when(x, "not 1=1 and 1=2"));
        due("not of a C alone", 1, when(x, "not 1=1 or 1=1"));
        due("not of brackets", 1, when(x, "not (1=1 and 1=2)"));
        due("not not", 1, when(x, "not not 1=1"));
        due("not in brackets", 1, when(x, "(not (1=2)) and not (not 2=2 or 3=4)"));
        due("no line so", -5 + 12, noneSo(x));
        say(x, 1, "grow 1 when 1=2;lower 3;grow 2 when week=7;grow 4;");
        due("the first that is so", 2, x.of(0, 6));
        x.weeks(1);
        due("the next week", 4, x.of(0, 6));
    }
    private static int noneSo(PlantedDoubts x) { say(x, 1, "grow 1 when 1=2;"); return x.of(0, 6); }

    private static void reason() {
        PlantedDoubts x = with(1);
        due("none", NONE, x.reason(0, 0));
        said(x, 0, "7 from 0 and 3 and 6 gives 100;4 clashes 2;", 2);
        due("thing", 7, x.reason(0, 0));
        due("from", 73, x.reason(0, 1));
        due("N", 100, x.reason(0, 2));
        due("thing", 4, x.reason(1, 0));
        due("clashes with", 4, x.reason(1, 1));
        due("no N", 0, x.reason(1, 2));
        due("no such line", NONE, x.reason(2, 0));
        due("no such line", NONE, x.reason(-1, 0));
        due("no such what", NONE, x.reason(0, 3));
        due("no such what", NONE, x.reason(0, -1));
    }

    private static void book() {
        PlantedDoubts x = with(8);
        x.set(0, 0, 0);
        for (int h = 0; h < 8; h++) sure(x, h, h);
        x.weeks(18);
        due("lines", 144, x.look(4));
        x.pot(3, 2, 1);
        due("when", 18, x.book(144, 0));
        due("what", 0, x.book(144, 1));
        due("where", 3, x.book(144, 2));
        due("of which", 2, x.book(144, 3));
        x.weeks(1);
        due("no more than 150", 150, x.look(4));
        due("the last", 4, x.book(149, 2));
        due("a breach", 5, x.book(149, 1));
        due("of how many", 1, x.book(149, 3));
        due("all breaches", 152, x.look(2));
        x.weed(3);
        due("no more", 150, x.look(4));
        due("the first", 7, x.book(7, 2));
        due("its house", 0, x.book(0, 2));
        due("its what", 5, x.book(0, 1));
        due("no such", NONE, x.book(150, 0));
        due("no such", NONE, x.book(-1, 0));
        due("no such what", NONE, x.book(0, 4));
        due("no such what", NONE, x.book(0, -1));
        x.undo();
        x.undo();
        due("goes back", 145, x.look(4));
        due("no longer there", NONE, x.book(145, 0));
    }

    private static void first() {
        PlantedDoubts x = with(3);
        x.set(0, 0, 1);
        x.set(1, 0, 1000);
        x.set(2, 0, 1000);
        said(x, 0, "1 from 0 gives 20;", 1);
        said(x, 3, "on 5 tell 0 of 2 to 90;on 5 tell 0 of 3 to 90;", 2);
        x.tell(2, 0, 95);
        x.tell(1, 0, 95);
        x.pot(2, 6, 9);
        due("none in one week", NONE, x.first(1, 0));
        due("none in one week", NONE, x.first(1, 1));
        due("none in one week", 0, x.first(1, 2));
        due("the least of two", 1, x.first(2, 0));
        due("at its week", 1, x.first(2, 1));
        due("both", 2, x.first(2, 2));
        due("what 3", NONE, x.first(2, 3));
        due("what -1", NONE, x.first(2, -1));
        due("the earliest, though another is less", 1, x.first(9, 0));
        due("its week", 1, x.first(9, 1));
        due("16 and 4 more", 20, x.first(9, 2));
        due("0 weeks", NONE, x.first(0, 2));
        due("61 weeks", NONE, x.first(61, 2));
        due("what 3", NONE, x.first(1, 3));
        due("what -1", NONE, x.first(1, -1));
        due("nothing stays: week", 0, x.look(1));
        due("breaches", 0, x.look(2));
        due("book", 1, x.look(4));
        due("state", 0, x.look(5));
        due("degree", 50, x.of(1, 11));
        due("pot", 6, x.of(2, 0));
        due("what can be undone", 3, x.look(11));
        due("60 weeks", 59 + 59 + 55, x.first(60, 2));
    }

    private static void gives() {
        PlantedDoubts x = with(3);
        due("none needed", 0, x.gives(0));
        due("none needed", 0, x.gives(12));
        due("no such house", NONE, x.gives(13));
        due("what 1", NONE, x.gives(1));
        due("what 9", NONE, x.gives(9));
        due("what -1", NONE, x.gives(-1));
        x.set(0, 0, 1);
        sure(x, 0, 0, 1, 2);
        sure(x, 1, 0, 1);
        sure(x, 2, 1, 7);
        due("no stock", NONE, x.gives(0));
        x.set(3, 0, 1);
        x.set(3, 1, 1);
        due("too little", NONE, x.gives(0));
        x.set(3, 2, 1);
        due("too little", NONE, x.gives(10));
        x.set(3, 7, 1);
        due("four", 4, x.gives(0));
        due("house 0 first, its least", 5, x.gives(10));
        due("house 1", 2, x.gives(11));
        due("house 2", 128, x.gives(12));
        x.set(3, 1, 2);
        due("more stock", 3, x.gives(10));
        due("house 1 can't have 0", 2, x.gives(11));
        due("house 2", 128, x.gives(12));
        x.set(3, 1, 3);
        due("house 2", 2, x.gives(12));
        said(x, 2, "work 0 sure 0;work 2 sure 1;work 1 doubts 1;work 0 doubts 1;", 4);
        due("none that a work needs", 6, x.gives(10));
        due("house 1", 1, x.gives(11));
        due("house 2", 128, x.gives(12));
        said(x, 2, "work 0 sure 0;work 0 sure 1;", 2);
        due("a house with too few", NONE, x.gives(0));
        due("a house with too few", NONE, x.gives(12));
    }

    private static void done() {
        PlantedDoubts x = with(2);
        due("no works", 0, x.done());
        said(x, 2, "work 0 sure 1;work 0 doubts 1;work 1 sure 7;work 1 doubts 7;", 4);
        due("all doubt", 10, x.done());
        x.tell(0, 1, 90);
        due("one is sure", 9, x.done());
        x.tell(1, 7, 89);
        due("89 is not", 9, x.done());
        said(x, 2, "work 0 sure 1;".repeat(12), 12);
        due("twelve", 4095, x.done());
    }

    private static void struck() {
        PlantedDoubts x = with(1);
        said(x, 0, "0 clashes 1;2 clashes 1;3 clashes 4;5 from 6 gives 10;", 4);
        due("sure of nothing", 0, x.struck(0, 0));
        due("sure of nothing", 0, x.struck(0, 1));
        x.tell(0, 0, 90);
        x.tell(0, 1, 100);
        due("the lesser", 90, x.struck(0, 0));
        due("the lesser", 1, x.struck(0, 1));
        x.tell(0, 2, 90);
        due("one for two", 100, x.struck(0, 0));
        due("one for two", 2, x.struck(0, 1));
        x.tell(0, 3, 95);
        x.tell(0, 4, 95);
        due("the least set of two", 195, x.struck(0, 0));
        due("the least set of two", 10, x.struck(0, 1));
        x.tell(0, 4, 94);
        due("the least sum", 194, x.struck(0, 0));
        due("the least sum", 18, x.struck(0, 1));
        due("what 2", NONE, x.struck(0, 2));
        due("what -1", NONE, x.struck(0, -1));
        due("no such house", NONE, x.struck(1, 0));
        due("no such house", NONE, x.struck(-1, 0));
    }

    private static void down() {
        PlantedDoubts x = with(1);
        said(x, 0, "1 from 0 gives 10;2 from 1 gives 10;2 from 3 gives 10;4 from 5 gives 10;5 from 4 gives 10;6 from 2 and 3 gives 1;0 clashes 7;", 7);
        sure(x, 0, 0, 1, 2, 3);
        due("2 has another reason", 2, x.down(0, 0));
        due("nothing hangs on it alone", 0, x.down(0, 3));
        due("not on itself", 0, x.down(0, 2));
        x.tell(0, 6, 90);
        due("both are needed", 64, x.down(0, 3));
        due("both are needed", 64, x.down(0, 2));
        sure(x, 0, 4, 5);
        due("a ring stands on nothing", 48, x.down(0, 1));
        due("from nothing on", 16, x.down(0, 5));
        x.tell(0, 7, 90);
        due("a clash gives nothing", 48, x.down(0, 7));
        x.tell(0, 7, 89);
        due("not sure of it", NONE, x.down(0, 7));
        due("no such thing", NONE, x.down(0, 8));
        due("no such thing", NONE, x.down(0, -1));
        due("no such house", NONE, x.down(1, 0));
    }

    private static void by() {
        PlantedDoubts x = with(8);
        for (int h = 0; h < 7; h++) x.line(h, h + 1, true);
        due("by none", NONE, x.by(7, 3));
        x.pot(0, 3, 0);
        due("seven lines", 7, x.by(7, 3));
        due("itself", 0, x.by(0, 3));
        due("of another thing", NONE, x.by(0, 4));
        x.line(0, 6, true);
        due("two lines", 2, x.by(7, 3));
        due("three lines", 3, x.by(4, 3));
        x.pot(5, 3, 0);
        due("the nearer", 1, x.by(4, 3));
        x.line(4, 5, false);
        x.line(3, 4, false);
        due("parted", NONE, x.by(4, 3));
        due("no such thing", NONE, x.by(0, 8));
        due("no such thing", NONE, x.by(0, -1));
        due("no such house", NONE, x.by(8, 3));
    }

    private static void part() {
        PlantedDoubts x = with(8);
        due("none", 0, x.part(0, 7));
        for (int a = 0; a < 8; a++) for (int b = a + 1; b < 8; b++) x.line(a, b, true);
        due("all", 7, x.part(0, 7));
        for (int b = 2; b < 8; b++) x.line(1, b, false);
        due("one line only", 1, x.part(1, 5));
        due("the others", 6, x.part(0, 7));
        for (int a = 0; a < 4; a++) for (int b = 4; b < 8; b++) x.line(a, b, false);
        x.line(0, 4, true);
        x.line(2, 6, true);
        due("two bridges", 2, x.part(3, 7));
        due("alike", NONE, x.part(3, 3));
        due("no such", NONE, x.part(3, 8));
        due("no such", NONE, x.part(-1, 3));
    }

    private static void talk() {
        PlantedDoubts x = with(2);
        due("first", 1, x.talk(0, 0, 0));
        due("the same again", 2, x.talk(0, 0, 0));
        due("how 2", NONE, x.talk(0, 0, 2));
        due("how -1", NONE, x.talk(0, 0, -1));
        due("no such thing", NONE, x.talk(0, 8, 0));
        due("no such thing", NONE, x.talk(0, -1, 0));
        due("no such house", NONE, x.talk(2, 0, 0));
        due("no such house", NONE, x.talk(-2, 0, 0));
        for (int i = 3; i <= 12; i++) due("more", i, x.talk(1, 7, 1));
        due("the thirteenth", NONE, x.talk(1, 7, 1));
        due("look(10)", 12, x.look(10));
        due("none is then", 0, x.talk(NONE, 99, 99));
        due("look(10)", 0, x.look(10));
        due("anew", 1, x.talk(1, 7, 1));
    }

    private static void fits() {
        PlantedDoubts x = with(2);
        due("all of three at most", 93, x.fits(0, 0));
        x.talk(0, 2, 0);
        due("sure of 2", 29, x.fits(0, 0));
        due("or not", 93, x.fits(0, 1));
        x.talk(0, 3, 1);
        due("and not of 3", 22, x.fits(0, 0));
        due("the other house", 93, x.fits(1, 0));
        x.talk(0, 2, 0);
        due("two against one error", 29, x.fits(0, 1));
        due("two errors", 71, x.fits(0, 2));
        due("three errors", 93, x.fits(0, 3));
        due("4", NONE, x.fits(0, 4));
        due("-1", NONE, x.fits(0, -1));
        due("no such house", NONE, x.fits(2, 0));
        x.set(0, 0, 8);
        due("of eight at most", 64, x.fits(0, 0));
        x.set(0, 0, 0);
        due("of none", 0, x.fits(0, 0));
        due("of none, with errors", 1, x.fits(0, 2));
    }

    private static void ask() {
        PlantedDoubts x = with(2);
        due("all alike", 0, x.ask(0, 0));
        x.talk(0, 0, 1);
        due("0 is known", 1, x.ask(0, 0));
        x.talk(0, 1, 0);
        x.talk(0, 2, 1);
        due("3 is next", 3, x.ask(0, 0));
        due("no such house", NONE, x.ask(2, 0));
        due("4", NONE, x.ask(0, 4));
        due("-1", NONE, x.ask(0, -1));
        x.set(0, 0, 1);
        due("one set only", NONE, x.ask(0, 0));
        x.talk(0, 3, 0);
        due("no set", NONE, x.ask(0, 0));
        due("two sets with an error", 1, x.ask(0, 1));
        x.talk(NONE, 0, 0);
        x.set(0, 0, 2);
        x.talk(0, 5, 0);
        due("5 is in all", 0, x.ask(0, 0));
        x.talk(NONE, 0, 0);
        x.set(0, 0, 1);
        for (int t = 0; t < 7; t++) x.talk(0, t, 1);
        due("only 7 or nothing", 7, x.ask(0, 0));
        due("three errors may be", 0, x.ask(0, 3));
    }

    private static void waters() {
        PlantedDoubts x = with(1);
        due("no pot", NONE, x.waters(0, 1, 0));
        x.pot(0, 2, 0);
        x.tell(0, 2, 95);
        due("one week", 0, x.waters(0, 1, 0));
        due("two weeks", 1, x.waters(0, 2, 0));
        due("the most", 40, x.waters(0, 30, 1));
        due("0 weeks", NONE, x.waters(0, 0, 0));
        due("31 weeks", NONE, x.waters(0, 31, 0));
        due("what 2", NONE, x.waters(0, 1, 2));
        due("what -1", NONE, x.waters(0, 1, -1));
        due("no such house", NONE, x.waters(1, 1, 0));
        x.water(0, 9);
        due("water now counts in the first", 0, x.waters(0, 3, 0));
        due("but not in the second", 1, x.waters(0, 4, 0));
        said(x, 1, "grow 0-99 when water>98;grow 0-99 when water<50;grow 0;", 3);
        due("99 at most", NONE, x.waters(0, 1, 0));
        x.water(0, 51);
        due("60 and as much as 38", 38, x.waters(0, 1, 1));
        said(x, 1, "grow 0-99 when not water=60;", 1);
        due("60 and 0 alone", 0, x.waters(0, 1, 1));
        said(x, 1, "grow 0-99 when water<99;grow 0-99 when week>0;", 2);
        due("60 and 39", 39, x.waters(0, 1, 0));
        due("60 and 40", 40, x.waters(0, 1, 1));
        said(x, 1, "grow 0-99 when water>98;grow 0-99 when water<50;grow 0;", 3);
        due("60 and 0", 0, x.waters(0, 1, 0));
        due("the second week has too little", NONE, x.waters(0, 2, 0));
        said(x, 1, "grow 0-99 when week>2;grow 0;", 2);
        due("weeks go on", 0, x.waters(0, 3, 0));
        due("weeks go on", NONE, x.waters(0, 4, 0));
        said(x, 1, "lower 10;grow 0-99 when sures=0;grow 0;", 3);
        due("sures as now", 0, x.waters(0, 30, 0));
        said(x, 1, "lower 10;grow 0-99 when degree<90;grow 0;", 3);
        due("degree as it would be", 0, x.waters(0, 1, 0));
        due("degree as it would be", NONE, x.waters(0, 2, 0));
        said(x, 1, "grow 10;grow 0;", 2);
        due("nothing stays", 10, x.of(0, 1));
        due("nothing stays", 60, x.of(0, 3));
        due("nothing stays", 0, x.look(1));
        due("nothing stays", 95, x.of(0, 12));
        due("nothing stays", 1, x.look(4));
    }

    private static void heights(PlantedDoubts x, int... heights) {
        for (int h = 0; h < heights.length; h++) if (heights[h] > 0) x.pot(h, h, 0);
        StringBuilder law = new StringBuilder();
        for (int h = 0; h < heights.length; h++) if (heights[h] > 0) law.append("grow ").append(heights[h]).append("-10 when thing=").append(h).append(";");
        say(x, 1, law.toString());
        x.weeks(1);
    }

    private static void game() {
        PlantedDoubts x = with(5);
        due("no pots", NONE, x.game(0));
        due("no pots", NONE, x.game(1));
        heights(x, 3, 0, 20, 12, 16);
        due("3 ^ 20 ^ 12 ^ 16 = 11: the third is high enough", 3, x.game(0));
        due("12 ^ 11", 7, x.game(1));
        due("what 2", NONE, x.game(2));
        due("what -1", NONE, x.game(-1));
        PlantedDoubts y = with(4);
        heights(y, 10, 12, 10, 12);
        due("who begins loses", NONE, y.game(0));
        due("who begins loses", NONE, y.game(1));
        PlantedDoubts z = with(3);
        heights(z, 9, 9, 9);
        due("the least of several", 0, z.game(0));
        due("to nothing", 0, z.game(1));
    }

    private static void greenhouses() {
        PlantedDoubts x = with(8);
        due("no pots", 0, x.greenhouses(1));
        due("0", NONE, x.greenhouses(0));
        due("1000", NONE, x.greenhouses(1000));
        heights(x, 6, 5, 5, 4, 4, 3, 3, 0);
        due("three of ten", 3, x.greenhouses(10));
        due("of nine", 4, x.greenhouses(9));
        due("all in one", 1, x.greenhouses(30));
        due("not quite", 2, x.greenhouses(29));
        due("just one each but the last", 6, x.greenhouses(6));
        due("too high", NONE, x.greenhouses(5));
        due("999", 1, x.greenhouses(999));
        PlantedDoubts y = with(6);
        heights(y, 4, 4, 4, 6, 6, 6);
        due("4 and 6", 3, y.greenhouses(10));
    }

    private static void undo() {
        PlantedDoubts x = with(1);
        no("nothing", x.undo());
        x.tell(0, 0, 95);
        x.pot(0, 1, 2);
        x.water(0, 7);
        x.weed(0);
        due("four", 4, x.look(11));
        yes("the weeding", x.undo());
        due("tender is back", 2, x.of(0, 2));
        due("water is back", 7, x.of(0, 3));
        due("the book is back", 1, x.look(4));
        yes("the watering", x.undo());
        due("no water", 0, x.of(0, 3));
        yes("the potting", x.undo());
        due("no pot", NONE, x.of(0, 0));
        yes("the telling", x.undo());
        due("degree", 50, x.of(0, 10));
        no("nothing more", x.undo());

        x.set(1, 0, 1000);
        x.set(0, 0, 0);
        x.tell(0, 0, 95);
        x.weeks(7);
        due("six are kept", 6, x.look(11));
        for (int i = 6; i > 0; i--) {
            yes("a week", x.undo());
            due("week", i, x.look(1));
            due("breaches", i, x.look(2));
            due("book", i, x.look(4));
        }
        due("state", 1013904223, x.look(5));
        no("the seventh is not kept", x.undo());

        x.state(3);
        x.tell(0, 0, 1);
        due("kept", 1, x.look(11));
        say(x, 1, "grow 1;");
        say(x, 2, "work 0 sure 1;");
        x.talk(0, 0, 0);
        x.image(true);
        x.feed(0, 0, 0, 0, 0);
        x.end(0);
        x.set(0, 0, 9);
        x.line(0, 0, true);
        say(x, 0, "x");
        say(x, 3, "x");
        x.text(4);
        due("the law, works, talks, the image, what can't be: all kept", 1, x.look(11));
        x.undo();
        due("the law stays told", 1, x.look(7));
        due("works stay told", 1, x.look(8));
        due("talks stay told", 1, x.look(10));
        for (int i = 0; i < 9; i++) {
            x.tell(0, 0, 2);
            switch (i) {
                case 0: x.state(0); break;
                case 1: x.house(); break;
                case 2: x.set(0, 0, 3); break;
                case 3: x.set(3, 0, 3); break;
                case 4: x.line(0, 1, true); break;
                case 5: x.text(0); break;
                case 6: x.text(3); break;
                case 7: x.line(0, 1, true); break;
                default: x.image(false);
            }
            due("forgotten by " + i, 0, x.look(11));
            no("forgotten by " + i, x.undo());
        }
        PlantedDoubts y = with(8);
        y.tell(0, 0, 2);
        y.house();
        due("a ninth house is none", 1, y.look(11));
    }

    private static void image() {
        PlantedDoubts x = with(2);
        no("none yet", x.image(false));
        x.line(0, 1, true);
        x.set(0, 0, 0);
        x.set(1, 0, 500);
        x.set(2, 0, 600);
        x.set(3, 4, 5);
        x.state(77);
        say(x, 0, "1 from 0 gives 1;");
        say(x, 1, "grow 5;");
        say(x, 2, "work 0 sure 1;");
        say(x, 3, "on 9 weed 0;");
        x.talk(0, 3, 1);
        x.tell(0, 0, 95);
        x.pot(0, 1, 0);
        x.weeks(2);
        int[] was = new int[28];
        for (int i = 0; i < 28; i++) was[i] = x.look(i);
        due("what can be undone", 4, x.look(11));
        yes("taken", x.image(true));
        due("still to be undone", 4, x.look(11));
        for (int round = 0; round < 2; round++) {
            x.house();
            x.line(0, 1, false);
            x.set(0, 0, 8);
            x.set(1, 0, 1);
            x.set(2, 0, 1);
            x.set(3, 4, 0);
            x.state(1);
            for (int k = 0; k < 4; k++) x.text(k);
            x.talk(NONE, 0, 0);
            x.tell(0, 0, 1);
            x.weed(0);
            x.weeks(9);
            say(x, 1, "grow x;");
            x.feed(0x67726f77, 0x2037373b, 0x20202020, 0x20202020, 0x20202020);
            yes("gone back", x.image(false));
            for (int i = 0; i < 28; i++) due("look(" + i + ")", i == 11 ? 0 : was[i], x.look(i));
            due("fault stays", 1, x.fault(0));
            due("its place stays", 5, x.fault(1));
            due("line", 2, x.of(0, 5));
            due("degree", 95, x.of(0, 10));
            due("height", 20, x.of(0, 1));
            due("the law", 5, x.of(0, 6));
            due("reason", 1, x.reason(0, 1));
            due("done", 0, x.done());
            x.set(0, 0, 8);
            due("talk", 128, x.fits(0, 0));
            due("book", 5, x.book(2, 1));
            due("the tape stays", 1, x.text(1));
            due("of the tape", 77, x.of(0, 6));
        }
    }

    private static void look() {
        PlantedDoubts x = with(2);
        x.set(3, 7, 4);
        x.pot(1, 0, 0);
        x.weeks(1);
        due("houses", 2, x.look(0));
        due("week", 1, x.look(1));
        due("pots", 1, x.look(3));
        due("book", 1, x.look(4));
        due("what can be undone", 2, x.look(11));
        due("stock", 4, x.look(27));
        due("15", NONE, x.look(15));
        due("19", NONE, x.look(19));
        due("28", NONE, x.look(28));
        due("-1", NONE, x.look(-1));
        x.state(-9);
        due("state as it is", -9, x.look(5));
    }
}
