/** The edges of the TAPE, of TEXTS, FAULTS and of what THE LAW tells, sentence by sentence: promises 6 to 9, 15, 16 and Terms 2. */
public final class TextEdgesTest extends Edges {
    public static void main(String[] args) {
        feedComesBehind();
        endCuts();
        textTakesTheTape();
        faultTells();
        tokens();
        everyByte();
        theEnd();
        firstByPlace();
        reasonBounds();
        lawBounds();
        workBounds();
        planBounds();
        manyLines();
        openOnes();
        reasonsAreTold();
        lawSees();
        lawTells();
        lawReckons();
        lawJoins();
        finish();
    }

    private static void feedComesBehind() {
        sentence("6: Twenty bytes come behind the TAPE, of each number the highest first: how many it has");
        PlantedDoubts x = with(0);
        for (int i = 1; i <= 20; i++) due("feed", 20 * i, blanks(x));
        due("the 401st", NONE, blanks(x));
        PlantedDoubts y = with(0);
        due("feed", 20, y.feed(0x37206672, 0x6f6d2036, 0x20616e64, 0x20352061, 0x6e642034));
        due("feed", 40, y.feed(0x20616e64, 0x20332067, 0x69766573, 0x2031323b, 0x20202020));
        due("in their order", 1, y.text(0));
        due("the thing", 7, y.reason(0, 0));
        due("from", 8 + 16 + 32 + 64, y.reason(0, 1));
        due("N", 12, y.reason(0, 2));
        PlantedDoubts z = with(0);
        feed(z, "0 clashes 1;");
        due("behind twelve", 32, z.feed(0x3220636c, 0x61736865, 0x7320333b, 0x20202020, 0x20202020));
        due("both", 2, z.text(0));
        due("the second", 2, z.reason(1, 0));
        sentence("6: if there would be more than 400");
        for (int n : new int[] {0, 1, 379, 380}) {
            PlantedDoubts w = with(0);
            for (int i = 0; i < 20; i++) blanks(w);
            w.end(n);
            due("behind " + n, n + 20, blanks(w));
        }
        PlantedDoubts v = with(0);
        for (int i = 0; i < 19; i++) blanks(v);
        due("the last twenty", 400, v.feed(0x20202020, 0x20202020, 0x3020636c, 0x61736865, 0x7320373b));
        due("no more", NONE, v.feed(0x78787878, 0x78787878, 0x78787878, 0x78787878, 0x78787878));
        due("all 400 are read", 1, v.text(0));
        due("the last byte but one", 128, v.reason(0, 1));
    }

    private static void endCuts() {
        sentence("7: The TAPE has its first n bytes alone: true");
        for (int n : new int[] {0, 12, 13, 24}) {
            PlantedDoubts x = with(0);
            feed(x, "0 clashes 1;2 clashes 3;");
            yes("end(" + n + ")", x.end(n));
            no("one more", x.end(n + 1));
            yes("as many again", x.end(n));
            due("how many it has", n + 20, blanks(x));
            x.end(n);
            due("its lines", n == 13 ? NONE : n / 12, x.text(0));
            due("the end", n == 13 ? 13 : NONE, x.fault(1));
        }
        yes("end(0) of an empty one", with(0).end(0));
        PlantedDoubts full = with(0);
        for (int i = 0; i < 20; i++) blanks(full);
        yes("end(400)", full.end(400));
    }

    private static void textTakesTheTape() {
        sentence("8: The TAPE, empty then, is TEXT k: how many lines");
        String[] one = {"0 clashes 1;", "grow 1;", "work 0 sure 0;", "on 0 weed 0;"};
        for (int k = 0; k < 4; k++) {
            PlantedDoubts x = with(1);
            due("one line", 1, say(x, k, one[k]));
            no("empty then", x.end(1));
            due("two lines", 2, say(x, k, one[k].repeat(2)));
            due("a fault", NONE, say(x, k, one[k] + "x"));
            no("empty then, too", x.end(1));
            due("as it was", 2, x.look(6 + k));
            for (int j = 0; j < 4; j++) due("of the others", j == k ? 2 : 0, x.look(6 + j));
            due("blanks alone", 0, say(x, k, " \n \n"));
            due("none then", 0, x.look(6 + k));
            say(x, k, one[k]);
            due("an empty tape", 0, x.text(k));
            due("none then", 0, x.look(6 + k));
        }
        PlantedDoubts y = with(0);
        say(y, 0, "0 clashes 1;2 clashes 3;");
        say(y, 0, "4 clashes 5;");
        due("the new one", 4, y.reason(0, 0));
        due("none of the old", NONE, y.reason(1, 0));
        nothingOfTheOld();
    }

    /** A shorter TEXT leaves nothing of the longer one that was told ahead of it, whatever asks for it. */
    private static void nothingOfTheOld() {
        PlantedDoubts x = with(1);
        x.set(0, 0, 0);
        x.set(3, 1, 1);
        x.tell(0, 1, 90);
        say(x, 3, "on 5 weed 0;on 0 tell 0 of 7 to 3;");
        say(x, 3, "on 5 weed 0;");
        say(x, 0, "6 from 7 gives 1;5 from 1 gives 9;");
        say(x, 0, "6 from 7 gives 1;");
        say(x, 2, "work 0 doubts 0;work 0 sure 1;");
        say(x, 2, "work 0 doubts 0;");
        due("WORKS for GIVES", 1, x.gives(0));
        due("WORKS for DONE", 1, x.done());
        x.weeks(1);
        due("A PLAN", 50, x.of(0, 17));
        due("REASONS at (b)", 50, x.of(0, 15));
        sure(x, 0, 2, 3);
        say(x, 0, "6 from 7 gives 1;1 clashes 2;");
        say(x, 0, "6 from 7 gives 1;");
        due("REASONS for STRUCK", 0, x.struck(0, 0));
        say(x, 0, "6 from 7 gives 1;1 from 2 gives 1;");
        say(x, 0, "6 from 7 gives 1;");
        due("REASONS for DOWN", 0, x.down(0, 2));
        say(x, 0, "2 from 1 gives 1;2 from 3 gives 1;");
        say(x, 0, "2 from 1 gives 1;");
        due("REASONS for DOWN", 4, x.down(0, 1));
        x.pot(0, 0, 0);
        say(x, 1, "seed 1;grow 7;");
        say(x, 1, "seed 1;");
        due("THE LAW", -5, x.of(0, 6));
    }

    private static void faultTells() {
        sentence("9: Of the latest text() what 0 the FAULT (0 without one), 1 its place (NONE)");
        PlantedDoubts x = with(1);
        due("none yet", 0, x.fault(0));
        due("none yet", NONE, x.fault(1));
        say(x, 0, "x");
        due("at 0", 1, x.fault(0));
        due("at 0", 0, x.fault(1));
        feed(x, "0 clashes 0;");
        x.pot(0, 0, 0);
        x.weeks(1);
        due("it stays until the next", 1, x.fault(0));
        x.text(0);
        due("the next", 2, x.fault(0));
        due("the next", 10, x.fault(1));
        say(x, 2, "work 0 sure 0;");
        due("none", 0, x.fault(0));
        due("none", NONE, x.fault(1));
        say(x, 1, "seed 1;".repeat(17));
        due("the third", 3, x.fault(0));
        due("the third", 112, x.fault(1));
        x.text(9);
        due("no such text", 0, x.fault(0));
        due("no such text", NONE, x.fault(1));
    }

    private static void tokens() {
        sentence("2: letters as many as stand together are KEYWORDS (those told here for that text) or none");
        bad(1, 0, "0 clashe 1;", 1, 2);
        bad(1, 0, "0 clashess 1;", 1, 2);
        bad(1, 0, "0 Clashes 1;", 1, 2);
        bad(1, 0, "0 clashesand 1;", 1, 2);
        bad(1, 1, "growlower 1;", 1, 0);
        bad(1, 1, "g row 1;", 1, 0);
        for (String w : new String[] {"grow", "lower", "seed", "when", "or", "not", "height", "water", "thing", "work", "sure", "doubts", "on", "pot", "of", "by", "weed", "tell", "to", "tender"}) bad(1, 0, "0 " + w + " 1;", 1, 2);
        for (String w : new String[] {"from", "gives", "clashes", "work", "sure", "doubts", "on", "pot", "of", "by", "weed", "tell", "to"}) bad(1, 1, "grow " + w + ";", 1, 5);
        for (String w : new String[] {"from", "clashes", "grow", "height", "not", "on", "pot", "weed", "tell"}) bad(1, 2, "work 0 " + w + " 0;", 1, 7);
        for (String w : new String[] {"from", "grow", "height", "tender", "thing", "week", "sures", "not", "work", "sure", "doubts", "of", "by", "to", "on"}) bad(1, 3, "on 0 " + w + " 0;", 1, 5);
        for (String w : new String[] {"height", "tender", "water", "degree", "thing", "week", "sures", "lines", "1"}) said(1, 1, "grow " + w + ";", 1);
        sentence("2: digits as many as stand together NUMBERS of 1 to 4 digits or none");
        for (String n : new String[] {"1", "01", "001", "0001"}) said(1, 0, "0 clashes " + n + ";", 1);
        bad(1, 0, "0 clashes 00001;", 1, 10);
        bad(1, 0, "00000 clashes 1;", 1, 0);
        said(1, 1, "grow 9999;", 1);
        bad(1, 1, "grow 10000;", 1, 5);
        bad(1, 1, "grow 99999999999999999999;", 1, 5);
        bad(1, 1, "grow 4294967297;", 1, 5);
        bad(1, 1, "grow 1 2;", 1, 7);
        sentence("2: Blanks (32, 10) between");
        said(1, 0, "0from 1and 2gives 3;4clashes 5;", 2);
        said(1, 0, "\n 0\nfrom\n\n1  and 2\ngives 3\n;\n", 1);
        said(1, 1, "grow 1when 1<2and(2=2)or not 3>4;", 1);
        bad(1, 1, "grow 1 when 1<2 andnot 3>4;", 1, 16);
        bad(1, 1, "grow 1 when 1 < = 2;", 1, 16);
    }

    /** Each byte behind a NUMBER and ahead of a ; stands there or not. */
    private static void everyByte() {
        sentence("2: ; + - * / ( ) < = > . Blanks (32, 10) between");
        for (int c = 0; c < 256; c++) {
            String t = "grow 1" + (char) c + ";";
            boolean goesOn = c == ';' || c == '+' || c == '-' || c == '*' || c == '/';
            if (c == 32 || c == 10 || c >= '0' && c <= '9') said(1, 1, t, 1);
            else bad(1, 1, t, 1, goesOn ? 7 : 6);
        }
        for (int c = 0; c < 256; c++) {
            String t = "grow" + (char) c + " 1;";
            boolean letter = c >= 'a' && c <= 'z' || c >= 'A' && c <= 'Z';
            if (c == 32 || c == 10) said(1, 1, t, 1);
            else bad(1, 1, t, 1, letter ? 0 : c >= '0' && c <= '9' ? 6 : 4);
        }
        for (char c : new char[] {'<', '=', '>'}) said(1, 1, "grow 1 when 1" + c + "2;", 1);
        for (char c : new char[] {'+', '-', '*', '/'}) said(1, 1, "grow 1" + c + "2;", 1);
    }

    private static void theEnd() {
        sentence("2: 1 what can't stand there (the end: the text's length)");
        String[] whole = {"2 from 0 and 1 gives 30;", "grow 1+2*3/4-5 when not (1<2 and 3=4) or 5>6;", "work 0 sure 1;", "on 1 pot 0 of 2 tender 3;"};
        for (int k = 0; k < 4; k++) {
            String t = whole[k];
            said(1, k, t, 1);
            for (int n = 1; n < t.length(); n++) if (t.charAt(n) == ' ' || t.charAt(n) == ';') bad(1, k, t.substring(0, n), 1, n);
            bad(1, k, t.substring(0, t.length() - 1) + " \n ", 1, t.length() + 2);
            bad(1, k, t + ";", 1, t.length());
        }
        for (int k = 0; k < 4; k++) said(0, k, "", 0);
        said(0, 0, " ".repeat(400), 0);
        bad(0, 0, " ".repeat(399) + "0", 1, 400);
        bad(0, 1, " ".repeat(395) + "grow ", 1, 400);
        bad(0, 0, " ".repeat(399) + "x", 1, 399);
        for (String t : new String[] {";", "0;", "x(", "+"}) bad(0, 1, t.repeat(400 / t.length()), 1, 0);
    }

    private static void firstByPlace() {
        sentence("2: FAULTS, the first by its place");
        bad(1, 0, "0 from 8 gives 0;x", 2, 7);
        bad(1, 0, "0 clashes 1;".repeat(16) + "0 clashes 0;", 3, 192);
        bad(1, 0, "0 clashes 1;".repeat(15) + "0 clashes x;0 clashes 1;", 1, 190);
        bad(1, 1, "grow 1/0+x;", 2, 7);
        bad(1, 1, "grow x/0;", 1, 5);
        bad(1, 1, "grow 1 when (((((((((1/0=x;", 3, 20);
        bad(1, 1, "grow 1/0 when (((((((((1=1;", 2, 7);
        bad(1, 2, "work 9 knows 9;", 2, 5);
        bad(1, 3, "on 1000 grow 9;", 2, 3);
        sentence("2: at one place the least");
        bad(1, 0, "0 clashes 1;".repeat(16) + "8 clashes 1;", 2, 192);
        bad(1, 0, "0 clashes 1;".repeat(16) + "00000 clashes 1;", 1, 192);
        bad(1, 1, "seed 1;".repeat(16) + "sow 1;", 1, 112);
        bad(1, 2, "work 0 sure 0;".repeat(12) + "sure", 1, 168);
        bad(1, 3, "on 0 weed 0;".repeat(16) + "weed", 1, 192);
        bad(1, 1, "grow 1 when ((((((((1=1 (", 1, 24);
        bad(1, 1, "grow 1 when ((((((((1=1 not", 1, 24);
        bad(0, 2, "work 00000 sure 0;", 1, 5);
    }

    /** A NUMBER in the place of #: the least and the most that may be, what lies just outside, and what is no NUMBER. */
    private static void bounds(int houses, int k, String t, int least, int most) {
        int place = t.indexOf('#');
        said(houses, k, t.replace("#", "" + least), 1);
        said(houses, k, t.replace("#", "" + most), 1);
        if (least > 0) bad(houses, k, t.replace("#", "" + (least - 1)), 2, place);
        if (most < 9999) bad(houses, k, t.replace("#", "" + (most + 1)), 2, place);
        if (most < 9999) bad(houses, k, t.replace("#", "9999"), 2, place);
        bad(houses, k, t.replace("#", "10000"), 1, place);
        bad(houses, k, t.replace("#", "-1"), 1, place);
        bad(houses, k, t.replace("#", "x"), 1, place);
    }

    private static void reasonBounds() {
        sentence("2: one beyond its bounds (THINGS 0 .. 7)");
        bounds(0, 0, "# clashes 3;", 0, 7);
        bounds(0, 0, "# from 3 gives 1;", 0, 7);
        bounds(0, 0, "3 clashes #;", 0, 7);
        bounds(0, 0, "3 from # gives 1;", 0, 7);
        bounds(0, 0, "3 from 1 and # gives 1;", 0, 7);
        bounds(0, 0, "3 from 1 and 2 and 4 and 5 and 6 and 0 and 7 and # gives 1;", 0, 7);
        sentence("2: N 1 .. 100");
        bounds(0, 0, "3 from 1 gives #;", 1, 100);
        sentence("2: not from or with itself .. a THING from or with itself (at the NUMBER)");
        for (int t = 0; t < 8; t++) {
            int u = 7 - t;
            bad(0, 0, t + " clashes " + t + ";", 2, 10);
            bad(0, 0, t + " from " + t + " gives 1;", 2, 7);
            bad(0, 0, t + " from " + u + " and " + t + " gives 1;", 2, 13);
            bad(0, 0, t + " from " + u + " and " + u + " and 000" + t + " gives 1;", 2, 19);
            said(0, 0, t + " from " + u + " and " + u + " gives 1;" + u + " from " + t + " gives 1;", 2);
        }
    }

    private static void lawBounds() {
        sentence("2: a part by 0 (at the NUMBER)");
        bounds(0, 1, "grow 1/#;", 1, 9999);
        bounds(0, 1, "seed 1*2/3/#*4;", 1, 9999);
        bounds(0, 1, "lower 1 when 1<2 and 1/#=1;", 1, 9999);
        bad(0, 1, "grow 1/0000;", 2, 7);
        bad(0, 1, "grow 1 when 1=1/0;", 2, 16);
        sentence("2: T = U {* U | / NUMBER}.  U = NUMBER | ..");
        bounds(0, 1, "grow #;", 0, 9999);
        bounds(0, 1, "grow 1 when #<1;", 0, 9999);
        said(0, 1, "grow 1*0;", 1);
        said(0, 1, "grow 0*height/1*0;", 1);
        bad(0, 1, "grow 1/height;", 1, 7);
        bad(0, 1, "grow 1/(1);", 1, 7);
        bad(0, 1, "grow (1);", 1, 5);
        bad(0, 1, "grow +1;", 1, 5);
        bad(0, 1, "grow 1+;", 1, 7);
        bad(0, 1, "grow when 1=1;", 1, 5);
        bad(0, 1, "grow 1 when 1=1 or;", 1, 18);
        bad(0, 1, "grow 1 when 1=1 or or 1=1;", 1, 19);
        bad(0, 1, "grow 1 when and 1=1;", 1, 12);
        bad(0, 1, "grow 1 when 1 and 1=1;", 1, 14);
        bad(0, 1, "grow 1 when 1=1=1;", 1, 15);
        bad(0, 1, "grow 1 when (1=1;", 1, 16);
        bad(0, 1, "grow 1 when 1=1);", 1, 15);
        bad(0, 1, "grow 1 when (1+1)=2;", 1, 16);
        bad(0, 1, "grow 1 when (1=1)=1;", 1, 17);
        bad(0, 1, "grow 1 when (not 1=1;", 1, 20);
        bad(0, 1, "grow 1 when not 1=1);", 1, 19);
        bad(0, 1, "grow 1 when (1=1) (1=1);", 1, 18);
        bad(0, 1, "grow 1=1;", 1, 6);
        bad(0, 1, "grow 1 or 1=1;", 1, 7);
        bad(0, 1, "grow 1;when 1=1;", 1, 7);
        bad(0, 1, "grow 1 when;", 1, 11);
    }

    private static void workBounds() {
        sentence("2: a HOUSE that there is not");
        for (int houses = 1; houses <= 8; houses++) {
            bounds(houses, 2, "work # sure 0;", 0, houses - 1);
            bounds(houses, 2, "work # doubts 0;", 0, houses - 1);
        }
        bad(0, 2, "work 0 sure 0;", 2, 5);
        sentence("2: WORKS = {work HOUSE (sure | doubts) THING ;}");
        bounds(1, 2, "work 0 sure #;", 0, 7);
        bounds(1, 2, "work 0 doubts #;", 0, 7);
        bad(1, 2, "work 0 0;", 1, 7);
        bad(1, 2, "work 0 sure;", 1, 11);
        bad(1, 2, "work 0 sure doubts 0;", 1, 12);
        bad(1, 2, "0 sure 0;", 1, 0);
    }

    private static void planBounds() {
        sentence("2: (WEEK 0 .. 999, tender 0 .. 9, water 1 .. 99, to 0 .. 100.)");
        String[] deeds = {"pot 0 of 0 tender 0", "water 0 by 1", "weed 0", "tell 0 of 0 to 0"};
        for (String d : deeds) bounds(1, 3, "on # " + d + ";", 0, 999);
        bounds(1, 3, "on 0 pot 0 of 0 tender #;", 0, 9);
        bounds(1, 3, "on 0 water 0 by #;", 1, 99);
        bounds(1, 3, "on 0 tell 0 of 0 to #;", 0, 100);
        bounds(1, 3, "on 0 pot 0 of # tender 0;", 0, 7);
        bounds(1, 3, "on 0 tell 0 of # to 0;", 0, 7);
        sentence("2: a HOUSE that there is not");
        for (int houses = 1; houses <= 8; houses++) {
            bounds(houses, 3, "on 0 pot # of 0 tender 0;", 0, houses - 1);
            bounds(houses, 3, "on 0 water # by 1;", 0, houses - 1);
            bounds(houses, 3, "on 0 weed #;", 0, houses - 1);
            bounds(houses, 3, "on 0 tell # of 0 to 0;", 0, houses - 1);
        }
        for (String d : deeds) bad(0, 3, "on 0 " + d + ";", 2, 5 + d.indexOf('0'));
        sentence("2: A PLAN = {on WEEK (..) ;}");
        bad(1, 3, "on 0 weed 0 of 0;", 1, 12);
        bad(1, 3, "on 0 water 0 of 1;", 1, 13);
        bad(1, 3, "on 0 water 0 to 1;", 1, 13);
        bad(1, 3, "on 0 pot 0 of 0 to 0;", 1, 16);
        bad(1, 3, "on 0 pot 0 of 0;", 1, 15);
        bad(1, 3, "on 0 tell 0 of 0 tender 0;", 1, 17);
        bad(1, 3, "on 0 tell 0 to 0;", 1, 12);
        bad(1, 3, "on 0;", 1, 4);
        bad(1, 3, "0 weed 0;", 1, 0);
    }

    private static void manyLines() {
        sentence("2: 3 (at its KEYWORD) the 17th line of THE LAW, of A PLAN, the 13th WORK");
        for (String w : new String[] {"grow", "lower", "seed"}) {
            said(0, 1, "seed 1;".repeat(15) + w + " 1;", 16);
            bad(0, 1, "seed 1;".repeat(16) + "\n " + w, 3, 114);
        }
        said(1, 3, "on 0 weed 0;".repeat(16), 16);
        bad(1, 3, "on 0 weed 0;".repeat(16) + " on", 3, 193);
        bad(1, 3, "on 0 weed 0;".repeat(17), 3, 192);
        said(1, 2, "work 0 sure 0;".repeat(11) + "work 0 doubts 7;", 12);
        bad(1, 2, "work 0 sure 0;".repeat(12) + "  work", 3, 170);
        bad(1, 2, "work 0 sure 0;".repeat(13), 3, 168);
        sentence("2: 3 .. (at the first THING) the 17th line of REASONS");
        said(0, 0, "0 clashes 1;".repeat(15) + "1 from 0 gives 1;", 16);
        bad(0, 0, "0 clashes 1;".repeat(16) + " 7", 3, 193);
        bad(0, 0, "0 clashes 1;".repeat(16) + "1 from 0 gives 1;", 3, 192);
        bad(0, 0, "1 from 0 gives 1;".repeat(16) + "0 clashes 1;", 3, 272);
    }

    private static void openOnes() {
        sentence("2: 3 .. (at it) the 9th ( or not that is open");
        String[] eight = {"((((((((", "not not not not not not not not ", "(not (not (not (not ", "not(not(not(not(", "((((not not not not ", "not not not not (((("};
        String[] closed = {"))))))))", "", "))))", "))))", "))))", "))))"};
        for (int i = 0; i < eight.length; i++) {
            said(1, 1, "grow 1 when " + eight[i] + "1=1" + closed[i] + ";", 1);
            bad(1, 1, "grow 1 when " + eight[i] + "(1=1)" + closed[i] + ";", 3, 12 + eight[i].length());
            bad(1, 1, "grow 1 when " + eight[i] + "not 1=1" + closed[i] + ";", 3, 12 + eight[i].length());
            PlantedDoubts x = with(1);
            x.pot(0, 0, 0);
            say(x, 1, "grow 1 when " + eight[i] + "1=1" + closed[i] + ";grow 2;");
            due(eight[i], 1, x.of(0, 6));
            say(x, 1, "grow 1 when " + eight[i] + "1=2" + closed[i] + ";grow 2;");
            due(eight[i], 2, x.of(0, 6));
        }
        said(1, 1, "grow 1 when ((((((((1=1)))))))) and ((((((((1=1)))))))) or ((((((((1=1))))))));", 1);
        said(1, 1, "grow 1 when not not not not not not not not 1=1 or not not not not not not not not 1=1;", 1);
        said(1, 1, "grow 1 when (not 1=1 and (((((((1=1))))))));", 1);
        bad(1, 1, "grow 1 when (not 1=1 and ((((((((1=1;", 3, 32);
        said(1, 1, "grow 1 when not (1=1) and ((((((((1=1))))))));", 1);
        bad(1, 1, "grow 1 when not (1=1) and (((((((((1=1;", 3, 34);
        bad(1, 1, "grow 1 when (((((((1=1 or (1=2) or not 1=1 and not (1=1;", 3, 51);
        bad(1, 1, "grow 1 when ((((((((1=1))))))) and ((1=1;", 1, 40);
        said(1, 1, "grow 1 when (1=1);lower 1 when ((((((((1=1))))))));", 2);
        bad(1, 1, "grow 1 when (1=1);lower 1 when (((((((((1=1))))))));", 3, 39);
        PlantedDoubts y = with(1);
        y.pot(0, 0, 0);
        for (String left : new String[] {"((((((((1=1", "not not not not not not not not", "1=1 and (1=1 or not", "((((((((("}) {
            due("a text left open", NONE, say(y, 1, "grow 1 when " + left));
            due("none is open in the next", 2, say(y, 1, "grow 1 when ((((((((1=2 or 1=1))))))));grow 2;"));
            due("none is open in the next", 1, y.of(0, 6));
        }
    }

    private static void reasonsAreTold() {
        sentence("16: Of line i of REASONS what 0 the THING, 1 those that it is from (a set), 2 N (0: clashes; 1: the one it clashes with, as a set)");
        PlantedDoubts x = with(0);
        due("none", NONE, x.reason(0, 0));
        say(x, 0, "0 from 7 gives 1;7 from 0 and 1 and 2 and 3 and 4 and 5 and 6 gives 100;0 clashes 7;7 clashes 0;" + "3 from 1 and 1 gives 9;".repeat(12));
        int[][] want = {{0, 128, 1}, {7, 127, 100}, {0, 128, 0}, {7, 1, 0}, {3, 2, 9}};
        for (int i = 0; i < 5; i++) for (int w = 0; w < 3; w++) due("reason(" + i + ", " + w + ")", want[i][w], x.reason(i, w));
        due("the last", 3, x.reason(15, 0));
        due("one behind", NONE, x.reason(16, 0));
        due("one ahead", NONE, x.reason(-1, 0));
        due("what 3", NONE, x.reason(0, 3));
        due("what -1", NONE, x.reason(0, -1));
    }

    private static int grow(PlantedDoubts x, String e) { say(x, 1, "grow " + e + ";"); return x.of(0, 6); }

    private static void lawSees() {
        sentence("2: height, tender, water: the POT's; degree: its DEGREE in the POT's THING; thing: that THING; week: WEEK; sures; lines");
        PlantedDoubts x = with(8);
        x.pot(0, 0, 0);
        x.tell(0, 0, 0);
        String[] words = {"height", "tender", "water", "degree", "thing", "week", "sures", "lines"};
        int[] least = {10, 0, 0, 0, 0, 0, 0, 0};
        for (int i = 0; i < 8; i++) due("the least " + words[i], least[i], grow(x, words[i]));
        for (int h = 1; h < 8; h++) x.line(0, h, true);
        for (int t = 0; t < 8; t++) x.tell(0, t, t == 7 ? 100 : 90);
        x.weed(0);
        x.pot(0, 7, 9);
        x.water(0, 99);
        int[] most = {10, 9, 99, 100, 7, 0, 8, 7};
        for (int i = 0; i < 8; i++) due("the most " + words[i], Math.min(99, most[i]), grow(x, words[i]));
        due("degree 100", 1, grow(x, "degree-99"));
        x.tell(0, 3, 89);
        due("sures from 90 on", 7, grow(x, "sures"));
        x.line(0, 3, false);
        due("lines that are", 6, grow(x, "lines"));
        due("of another house", 1, of(x, 4, "grow lines;"));
        PlantedDoubts y = with(2);
        heights(y, 1, 99);
        due("height 1", 1, grow(y, "height"));
        due("height 99", 99, y.of(1, 6));
        due("week 1", 1, grow(y, "week"));
        toWeek(y, 999);
        y.weed(0);
        y.pot(0, 0, 0);
        due("week 999", 99, grow(y, "week-900"));
        due("week 999", 1, grow(y, "1 when week=999"));
    }
    private static int of(PlantedDoubts x, int house, String law) {
        x.pot(house, 0, 0);
        say(x, 1, law);
        return x.of(house, 6);
    }

    private static void lawTells() {
        sentence("2: none: grow: water less 5, lower: height by 10, seed: 10");
        PlantedDoubts x = with(1);
        x.pot(0, 0, 0);
        due("grow without water", -5, x.of(0, 6));
        due("lower", 1, x.of(0, 7));
        due("seed", 10, x.of(0, 8));
        x.water(0, 5);
        due("grow with 5", 0, x.of(0, 6));
        x.water(0, 94);
        due("grow with 99", 94, x.of(0, 6));
        int[] high = {1, 9, 10, 19, 20, 99};
        int[] lower = {0, 0, 1, 1, 2, 9};
        for (int i = 0; i < high.length; i++) {
            PlantedDoubts y = with(1);
            heights(y, high[i]);
            due("lower at " + high[i], lower[i], y.of(0, 7));
        }
        sentence("2: E of the first line with that word whose B is so, or that has none");
        int[][] told = {{1, 0}, {0, 1}};
        for (int[] t : told) {
            say(x, 1, "lower 50;grow 11 when " + t[0] + "=1;seed 60;grow 12 when " + t[1] + "=1;grow 13;grow 14;");
            due("grow", t[0] == 1 ? 11 : 12, x.of(0, 6));
            due("lower", 50, x.of(0, 7));
            due("seed", 60, x.of(0, 8));
        }
        say(x, 1, "grow 11 when 1=2;grow 13;grow 14;");
        due("that has none", 13, x.of(0, 6));
        due("lower has no line", 1, x.of(0, 7));
        due("seed has no line", 10, x.of(0, 8));
        say(x, 1, "grow 11 when 1=2;lower 3 when 1>2;seed 4 when 2<1;");
        due("none is so", 94, x.of(0, 6));
        due("none is so", 1, x.of(0, 7));
        due("none is so", 10, x.of(0, 8));
        say(x, 1, "seed 1 when 1=2;".repeat(15) + "seed 2;");
        due("the sixteenth", 2, x.of(0, 8));
        sentence("2: grow is held to -99 .. 99, lower to 0 .. 100, seed to 0 .. 99");
        int[][] held = {{-100, -99, 0, 0}, {-99, -99, 0, 0}, {-98, -98, 0, 0}, {-1, -1, 0, 0}, {0, 0, 0, 0}, {1, 1, 1, 1}, {98, 98, 98, 98}, {99, 99, 99, 99}, {100, 99, 100, 99}, {101, 99, 100, 99}, {9999, 99, 100, 99}};
        for (int[] h : held) {
            String e = h[0] < 0 ? "0-" + -h[0] : "" + h[0];
            say(x, 1, "grow " + e + ";lower " + e + ";seed " + e + ";");
            for (int w = 6; w <= 8; w++) due(e + " of what " + w, h[w - 5], x.of(0, w));
        }
    }

    private static void lawReckons() {
        sentence("2: Ints, which wrap; / goes towards 0");
        PlantedDoubts x = with(1);
        x.pot(0, 0, 0);
        due("2^32 is 0", 0, grow(x, "8192*8192*64"));
        due("2^31 is the least", -99, grow(x, "8192*8192*32"));
        due("one less is the most", 99, grow(x, "8192*8192*32-1"));
        due("and one more the least", 1, grow(x, "8192*8192*32-1+1-8192*8192*32+1"));
        due("towards 0 from below", -21, grow(x, "8192*8192*32/9999/9999"));
        due("towards 0 from above", 3, grow(x, "7/2"));
        due("nothing", 0, grow(x, "9998/9999"));
        due("by 1", 9, grow(x, "9/1"));
        due("least by 1", -99, grow(x, "8192*8192*32/1"));
        due("wrapped ones are compared", 1, grow(x, "1 when 8192*8192*32<0"));
        due("wrapped ones are compared", 1, grow(x, "1 when 8192*8192*32-1>0"));
        due("wrapped ones are alike", 1, grow(x, "1 when 8192*8192*64=0"));
        say(x, 1, "grow 1 when 2<2;grow 2 when 2>2;grow 3 when 1=2;grow 4;");
        due("alike ones are neither less nor more", 4, x.of(0, 6));
        due("less", 1, grow(x, "1 when 1<2"));
        due("more", 1, grow(x, "1 when 2>1"));
        due("alike", 1, grow(x, "1 when 2=2"));
        due("a long sum", 90, grow(x, "0" + "+1".repeat(90)));
        due("a full text", 99, grow(x, "0" + "+1".repeat(196)));
        due("a full text", -98, grow(x, "97" + "-1".repeat(195)));
    }

    private static void so(PlantedDoubts x, String b, boolean is) {
        say(x, 1, "grow 1 when " + b + ";grow 0;");
        due(b, is ? 1 : 0, x.of(0, 6));
    }

    private static void lawJoins() {
        sentence("2: B = A {or A}.  A = C {and C}.  C = E (< | = | >) E | not C | ( B )");
        for (int i = 0; i < 8; i++) {
            boolean a = (i & 1) != 0, b = (i & 2) != 0, c = (i & 4) != 0;
            String p = a ? "1<2" : "2<1", q = b ? "3>2" : "2>3", r = c ? "4=4" : "4=5";
            PlantedDoubts x = with(1);
            x.pot(0, 0, 0);
            so(x, p, a);
            so(x, q, b);
            so(x, r, c);
            so(x, "not " + p, !a);
            so(x, "not " + q, !b);
            so(x, "not " + r, !c);
            so(x, "not not " + p, a);
            so(x, p + " and " + q, a && b);
            so(x, p + " or " + q, a || b);
            so(x, p + " or " + q + " and " + r, a || b && c);
            so(x, p + " and " + q + " or " + r, a && b || c);
            so(x, "(" + p + " or " + q + ") and " + r, (a || b) && c);
            so(x, p + " and (" + q + " or " + r + ")", a && (b || c));
            so(x, "not " + p + " and " + q, !a && b);
            so(x, "not " + p + " or " + q, !a || b);
            so(x, "not (" + p + " and " + q + ")", !(a && b));
            so(x, "not (" + p + " or " + q + ") or " + r, !(a || b) || c);
            so(x, p + " and not " + q + " and " + r, a && !b && c);
            so(x, p + " or not (" + q + " and not " + r + ")", a || !(b && !c));
        }
    }
}
