import java.util.ArrayList;
import java.util.List;

/** What the tests of the edges share: answers that are due, texts as bytes, and all that can be seen of an object. */
class Edges {
    interface Run { void on(PlantedDoubts x); }
    interface Ask { long of(PlantedDoubts x); }

    static final int NONE = PlantedDoubts.NONE;
    static final int MIN = Integer.MIN_VALUE;
    static final int MAX = Integer.MAX_VALUE;
    private static final int BLANKS = 0x20202020;
    // An object is promised for 512 calls: what is asked of one, and what makes it as it is, stays well below.
    private static final int ASKED_OF_ONE = 250;
    private static final List<Ask> QUESTIONS = new ArrayList<>();
    private static int asked = 0;
    private static int wrong = 0;
    private static String sentence = "";

    static void sentence(String said) { sentence = said; }
    static void due(String what, long want, long got) {
        asked++;
        if (got != want) {
            wrong++;
            System.out.println("\"" + sentence + "\": " + what + " answered " + got + ", due is " + want);
        }
    }
    static void yes(String what, boolean got) { due(what, 1, got ? 1 : 0); }
    static void no(String what, boolean got) { due(what, 0, got ? 1 : 0); }
    static void finish() {
        System.out.println(asked + " answers asked, " + wrong + " not as due");
        if (wrong != 0) System.exit(1);
    }

    static PlantedDoubts with(int houses) {
        PlantedDoubts x = new PlantedDoubts();
        for (int i = 0; i < houses; i++) x.house();
        return x;
    }

    // ---- texts

    static void feed(PlantedDoubts x, String t) {
        for (int i = 0; i < t.length(); i += 20) {
            int[] w = new int[5];
            for (int j = 0; j < 20; j++) w[j / 4] = w[j / 4] << 8 | (i + j < t.length() ? t.charAt(i + j) : 32);
            x.feed(w[0], w[1], w[2], w[3], w[4]);
        }
        x.end(t.length());
    }
    static int blanks(PlantedDoubts x) { return x.feed(BLANKS, BLANKS, BLANKS, BLANKS, BLANKS); }
    static int say(PlantedDoubts x, int k, String t) { feed(x, t); return x.text(k); }
    static void said(int houses, int k, String t, int lines) {
        PlantedDoubts x = with(houses);
        due("text(" + k + ") of \"" + t + "\"", lines, say(x, k, t));
        due("its fault", 0, x.fault(0));
        due("its place", NONE, x.fault(1));
        due("its lines", lines, x.look(6 + k));
    }
    static void bad(int houses, int k, String t, int fault, int place) {
        PlantedDoubts x = with(houses);
        due("text(" + k + ") of \"" + t + "\"", NONE, say(x, k, t));
        due("the fault of \"" + t + "\"", fault, x.fault(0));
        due("the place of \"" + t + "\"", place, x.fault(1));
        due("the lines of the text after \"" + t + "\"", 0, x.look(6 + k));
    }

    // ---- gardens

    static void sure(PlantedDoubts x, int house, int... things) { for (int t : things) x.tell(house, t, 90); }
    /** A POT of THING h in each HOUSE h, so high, or none for 0: one WEEK goes by, THE LAW is empty then. */
    static void heights(PlantedDoubts x, int... high) {
        StringBuilder law = new StringBuilder("lower 0;");
        for (int h = 0; h < high.length; h++) {
            if (high[h] == 0) continue;
            x.pot(h, h, 0);
            law.append("grow ").append(high[h]).append("-10 when thing=").append(h).append(";");
        }
        say(x, 1, law.toString());
        x.weeks(1);
        x.text(1);
    }
    static void toWeek(PlantedDoubts x, int week) {
        while (x.look(1) < week) x.weeks(Math.min(60, week - x.look(1)));
    }
    static int next(int state) { return 1664525 * state + 1013904223; }
    static int after(int state, int draws) {
        for (int i = 0; i < draws; i++) state = next(state);
        return state;
    }
    /** What the last of so many DRAWS from a STATE on is, of m. */
    static int drawn(int state, int draws, int m) { return (int) ((after(state, draws) & 0xFFFFFFFFL) / 256 % m); }

    /** A garden in which all is told, three HOUSES of so many in use: FAULT 2 at 7, a TAPE of 14 bytes, an IMAGE, six to undo. */
    static void rich(PlantedDoubts x, int houses) {
        for (int i = 0; i < houses; i++) x.house();
        x.line(0, 1, true);
        x.line(1, 2, true);
        x.set(0, 0, 1);
        x.set(1, 0, 300);
        x.set(2, 0, 400);
        for (int t = 0; t < 5; t++) x.set(3, t, 1 + t);
        x.state(12345);
        say(x, 0, "2 from 0 and 1 gives 30;4 clashes 0;");
        say(x, 1, "grow water-4 when height<60;lower 7 when sures>1;seed 20+tender;");
        say(x, 2, "work 0 sure 1;work 1 doubts 2;");
        say(x, 3, "on 3 water 0 by 9;on 4 pot 2 of 6 tender 3;on 5 tell 1 of 2 to 95;");
        x.tell(0, 0, 95);
        x.tell(0, 1, 92);
        x.tell(0, 4, 91);
        x.tell(1, 0, 90);
        x.talk(0, 2, 0);
        x.talk(1, 3, 1);
        x.pot(0, 5, 4);
        x.weeks(1);
        x.image(true);
        x.pot(1, 4, 2);
        x.water(1, 30);
        x.water(0, 20);
        x.tell(2, 3, 90);
        x.weeks(1);
        say(x, 0, "0 from 9 gives 1;");
        feed(x, "5 clashes 6;  ");
    }
    static void rich(PlantedDoubts x) { rich(x, 3); }

    // ---- all that can be seen

    private static void askAll() {
        if (!QUESTIONS.isEmpty()) return;
        for (int w = -1; w < 30; w++) { int a = w; QUESTIONS.add(x -> x.look(a)); }
        for (int h = 0; h < 9; h++) askOfHouse(h);
        for (int i = 0; i < 17; i++) for (int w = 0; w < 3; w++) { int a = i, b = w; QUESTIONS.add(x -> x.reason(a, b)); }
        for (int i = 0; i < 151; i++) for (int w = 0; w < 4; w++) { int a = i, b = w; QUESTIONS.add(x -> x.book(a, b)); }
        for (int w = 0; w < 3; w++) { int a = w; QUESTIONS.add(x -> x.first(60, a)); QUESTIONS.add(x -> x.first(3, a)); }
        for (int w = 0; w < 18; w++) { int a = w; QUESTIONS.add(x -> x.gives(a)); }
        QUESTIONS.add(x -> x.done());
        for (int w = 0; w < 2; w++) { int a = w; QUESTIONS.add(x -> x.game(a)); }
        for (int c = 1; c < 300; c += 9) { int a = c; QUESTIONS.add(x -> x.greenhouses(a)); }
    }
    private static void askOfHouse(int h) {
        for (int w = 0; w < 18; w++) { int a = w; QUESTIONS.add(x -> x.of(h, a)); }
        for (int t = 0; t < 8; t++) {
            int a = t;
            QUESTIONS.add(x -> x.down(h, a));
            QUESTIONS.add(x -> x.by(h, a));
            QUESTIONS.add(x -> x.part(h, a));
        }
        for (int w = 0; w < 2; w++) {
            int a = w;
            QUESTIONS.add(x -> x.struck(h, a));
            for (int n = 1; n <= 30; n += 7) { int b = n; QUESTIONS.add(x -> x.waters(h, b, a)); }
        }
        for (int e = 0; e < 4; e++) { int a = e; QUESTIONS.add(x -> x.fits(h, a)); QUESTIONS.add(x -> x.ask(h, a)); }
    }

    private static void answers(List<Long> seen, Run before) {
        askAll();
        PlantedDoubts x = null;
        for (int i = 0; i < QUESTIONS.size(); i++) {
            if (i % ASKED_OF_ONE == 0) {
                x = new PlantedDoubts();
                before.on(x);
            }
            seen.add(QUESTIONS.get(i).of(x));
        }
    }

    private static PlantedDoubts again(Run before, Run then) {
        PlantedDoubts x = new PlantedDoubts();
        before.on(x);
        then.on(x);
        return x;
    }
    private static void glance(List<Long> seen, PlantedDoubts x) {
        for (int w = 0; w < 15; w++) seen.add((long) x.look(w));
        for (int h = 0; h < 8; h++) for (int w = 0; w < 18; w++) seen.add((long) x.of(h, w));
        for (int i = 0; i < 4; i++) for (int w = 0; w < 3; w++) seen.add((long) x.reason(i, w));
        for (int i = 0; i < 12; i++) for (int w = 0; w < 4; w++) seen.add((long) x.book(i, w));
    }
    /** What comes of it when weeks go by, when all is undone step by step, when THE IMAGE is gone back to. */
    private static void outcomes(List<Long> seen, Run before) {
        for (int n = 1; n < 4; n++) { int a = n; glance(seen, again(before, x -> x.weeks(a))); }
        for (int n = 1; n <= 7; n++) { int a = n; glance(seen, again(before, x -> { for (int i = 0; i < a; i++) x.undo(); })); }
        glance(seen, again(before, x -> x.image(false)));
        seen.add(again(before, x -> { }).image(false) ? 1L : 0L);
    }
    private static void tapeAndFault(List<Long> seen, Run before) {
        PlantedDoubts y = again(before, x -> { });
        for (int w = 0; w < 2; w++) seen.add((long) y.fault(w));
        seen.add((long) blanks(y));
        for (int k = 0; k < 4; k++) {
            int a = k;
            PlantedDoubts z = again(before, x -> x.text(a));
            for (int w = 0; w < 2; w++) seen.add((long) z.fault(w));
            glance(seen, z);
        }
    }

    /** All that can be seen of an object after these calls, asked of as many new objects as it takes. */
    static List<Long> seen(Run before, boolean withTape) {
        List<Long> seen = new ArrayList<>();
        answers(seen, before);
        outcomes(seen, before);
        if (withTape) tapeAndFault(seen, before);
        return seen;
    }

    static void alike(String what, List<Long> want, List<Long> got) {
        due(what + ": how much is seen", want.size(), got.size());
        for (int i = 0; i < want.size() && i < got.size(); i++) {
            if (!want.get(i).equals(got.get(i))) { due(what + ": what is seen, number " + i, want.get(i), got.get(i)); return; }
        }
    }

    /** The call answers what is due and changes nothing that can be seen. */
    static void changesNothing(String call, Run before, long want, Ask ask) {
        PlantedDoubts x = new PlantedDoubts();
        before.on(x);
        due(call, want, ask.of(x));
        alike(call + " changes something", seen(before, true), seen(y -> { before.on(y); ask.of(y); }, true));
    }
    /** The same for a garden of three HOUSES in which all is told. */
    static void refused(String call, long want, Ask ask) { changesNothing(call, Edges::rich, want, ask); }
    static long bit(boolean is) { return is ? 1 : 0; }
}
