/** One method for each promise of the document, with values worked out by hand. */
public final class PromisesTest extends Checks {
    public static void main(String[] args) {
        promise1NewObject();
        promise2Unit();
        promise3Kinds();
        promise3Values();
        promise3WrongWords();
        promise3EightFamilies();
        promise4Span();
        promise5Arguments();
        promise5Chip();
        promise5Wing();
        promise5Less();
        promise5Thermal();
        promise5Ball();
        promise5Hole();
        promise5LargeValues();
        promise6Pad();
        promise6PadsOfLess();
        promise6PadsOfBall();
        promise6PadsOfHole();
        promise7Name();
        promise8Court();
        promise9Mask();
        promise10PasteWhole();
        promise10PasteParts();
        promise10PasteNone();
        promise11Leave();
        promise12Via();
        promise13Check();
        promise14Hand();
        promise15Text();
        promise16Clear();
        due("NONE", NONE, -1);
        end();
    }

    private static void promise1NewObject() {
        said("Promise 1");
        FootprintRules x = new FootprintRules();
        dueNothingAtHand(x);
        dueThrow("make without families", IndexOutOfBoundsException.class, () -> x.make(0, 0));
        due("family without words", x.family(), -1);
        due("first family", tellFamily(x, "chip"), 0);
        due("make without spans", x.make(0, 0), NONE);
        dueTrue("no ball left out", x.leave(1));
        dueTrue("no hand-made pad", x.hand(1, 0, 0, 1, 1));
    }

    private static void promise2Unit() {
        said("Promise 2");
        FootprintRules x = new FootprintRules();
        int[] refused = {31, 127, 9, 11, 13, 0, -1, 128, 255, 65536 + 99,
            Integer.MAX_VALUE, Integer.MIN_VALUE};
        for (int u : refused) {
            dueFalse("unit " + u, x.unit(u));
        }
        due("refused ones are no words", x.family(), -1);
        dueTrue("unit 32", x.unit(32));
        dueTrue("unit 10", x.unit(10));
        dueTrue("unit 33", x.unit(33));
        dueTrue("unit 126", x.unit(126));
        due("a word of the edges", x.family(), -1);

        tell(x, "chip");
        for (int i = 4; i < 600; i++) {
            dueTrue("unit " + i, x.unit(i % 2 == 0 ? ' ' : '\n'));
        }
        dueFalse("the 601st", x.unit(' '));
        dueFalse("the 601st", x.unit('x'));
        due("600 units", x.family(), 0);
        dueTrue("the words are gone", x.unit('x'));
    }

    private static void promise3Kinds() {
        said("Promise 3");
        String[] kinds = {"chip", "wing", "less", "ball", "hole"};
        FootprintRules x = new FootprintRules();
        for (int i = 0; i < kinds.length; i++) {
            due(kinds[i], tellFamily(x, kinds[i]), i);
        }
        due("breaks around words", tellFamily(x, "\n  chip \n\n mask   5 \n"), 5);
        due("no kind", tellFamily(x, "Chip"), -1);
        due("a longer word", tellFamily(x, "chips"), -1);
        due("a shorter word", tellFamily(x, "chi"), -1);
        due("two kinds", tellFamily(x, "chip wing"), -2);
        due("only breaks", tellFamily(x, " \n "), -1);
    }

    private static void promise3Values() {
        said("Promise 3");
        String[] right = {"toe 0 1 10000000", "heel 1 2 3 toe 4 5 6", "round 1", "round 10000000",
            "mask 0", "paste 00000000", "gap 00000012", "part 0", "part 10000", "part 10001",
            "via 0", "via 10000", "via 10000000", "name A", "name ZZZZ", "name NAME",
            "name COUR round 3 via 10002 part 99999 gap 1 paste 2 mask 3 court 1 2 3 side 4 5 6 "
                + "heel 7 8 9 toe 1 2 3"};
        for (String words : right) {
            due(words, tellFamily(new FootprintRules(), "less " + words), 0);
        }
        FootprintRules x = chip("chip", 1000, 500, 100);
        due("what is not told", x.make(0, 2), 2);
        due("toe 0", x.pad(0, 1), -500);
        due("heel 0", x.pad(1, 1), 250);
        due("side 0, round 1", x.pad(0, 4), 100);
        due("court 0", x.court(0), -500);
        due("mask 0", x.mask(0, 0), -500);
        due("paste 0, part 0", x.paste(0, NONE), 1);
        due("paste 0", x.paste(0, 2), 250);
    }

    private static void promise3WrongWords() {
        said("Promise 3");
        String[] words = {"bell", "wing toe", "wing toe 1 2", "wing toe 1 2 3 toe 1 2 3",
            "chip foot 1", "chip toe 1 x 3", "chip mask 10000001", "chip mask 000000001",
            "chip mask -1", "chip mask +1", "chip mask 1a", "chip mask 99999999", "chip round 0",
            "chip part 9999", "chip part 1", "chip via 9998", "chip via 10001", "chip via 2",
            "chip name", "chip name ABCDE", "chip name a", "chip name A1", "chip name A name A",
            "chip mask 1 2", "chip toe 1 2 3 4", "chip court 1 2 heel", "chip mask", "chip via",
            "chip name Z round 1 round 1", "chip mask 1 chip", "chip Toe 1 2 3"};
        int[] places = {0, 2, 4, 5,
            1, 3, 2, 2,
            2, 2, 2, 2, 2,
            2, 2, 2, 2, 2,
            2, 2, 2, 2, 3,
            3, 5, 4, 2, 2,
            5, 3, 1};
        for (int i = 0; i < words.length; i++) {
            FootprintRules x = new FootprintRules();
            due(words[i], tellFamily(x, words[i]), -1 - places[i]);
            due("the words are gone", x.family(), -1);
            due("there is no new one", tellFamily(x, "chip"), 0);
        }
        FootprintRules x = chip("chip name A toe 9 9 9 mask 7 round 50", 1000, 500, 100);
        due("wrong late", tellFamily(x, "chip toe 9 9 9 round 8 name Q mask x"), -11);
        due("the next one", tellFamily(x, "chip"), 1);
        due("make", x.make(1, 0), 2);
        due("nothing of the wrong one stays", x.pad(0, 1), -500);
        due("nor its name", x.name(0), 'C');
        due("the first one stays", x.make(0, 0), 2);
        due("its name", x.name(0), 'A');
    }

    private static void promise3EightFamilies() {
        said("Promise 3");
        FootprintRules x = new FootprintRules();
        for (int i = 0; i < 8; i++) {
            due("family " + i, tellFamily(x, "wing"), i);
        }
        tell(x, "hole");
        dueThrow("the ninth", IllegalStateException.class, () -> x.family());
        x.clear();
        dueThrow("families stay", IllegalStateException.class, () -> x.family());
    }

    private static void promise4Span() {
        said("Promise 4");
        FootprintRules x = chip("chip", 1000, 500, 100);
        for (int what = 0; what < 12; what++) {
            dueTrue("the widest", new FootprintRules().span(what, 0, 100000000));
        }
        dueFalse("low above high", x.span(OUTER, 5, 4));
        due("nothing changed", x.make(0, 0), 2);
        due("nothing changed", x.pad(0, 1), -500);
        dueTrue("told again", x.span(OUTER, 2000, 2000));
        due("the footprint stays", x.pad(0, 1), -500);
        due("make", x.make(0, 0), 2);
        due("told again", x.pad(0, 1), -1000);
        int[] whats = {-1, 12, Integer.MAX_VALUE, Integer.MIN_VALUE};
        for (int what : whats) {
            dueThrow("what " + what, IndexOutOfBoundsException.class, () -> x.span(what, 0, 0));
            dueThrow("what first", IndexOutOfBoundsException.class, () -> x.span(what, -1, 0));
        }
        long[] ends = {-1, 100000001, Long.MIN_VALUE, Long.MAX_VALUE, 1L << 32};
        for (long end : ends) {
            dueThrow("low " + end, IllegalArgumentException.class, () -> x.span(0, end, 5));
            dueThrow("high " + end, IllegalArgumentException.class, () -> x.span(0, 5, end));
        }
        due("make", x.make(0, 0), 2);
        due("what throws changes nothing", x.pad(0, 1), -1000);
    }

    private static void promise5Arguments() {
        said("Promise 5");
        FootprintRules x = chip("chip", 1000, 500, 100);
        due("make", x.make(0, 1), 2);
        int[] families = {-1, 1, 8, Integer.MAX_VALUE, Integer.MIN_VALUE};
        for (int f : families) {
            dueThrow("family " + f, IndexOutOfBoundsException.class, () -> x.make(f, 0));
            dueThrow("family first", IndexOutOfBoundsException.class, () -> x.make(f, 3));
        }
        int[] densities = {-1, 3, Integer.MAX_VALUE, Integer.MIN_VALUE};
        for (int d : densities) {
            dueThrow("density " + d, IllegalArgumentException.class, () -> x.make(0, d));
        }
        due("the footprint stays", x.pad(0, 0), 1);
        x.span(INNER, 0, 500);
        due("refused", x.make(0, 0), NONE);
        dueNothingAtHand(x);
    }

    private static void promise5Chip() {
        said("Promise 5");
        dueRefusedWithout("chip", OUTER, INNER, LEAD);
        dueMake("chip", 2, 0, 1000, 1, 500, 2, 100);
        dueMake("chip, X of 0", NONE, 0, 1000, 1, 500, 2, 0);
        dueMake("chip, G of 0", NONE, 0, 1000, 1, 1, 2, 100);
        dueMake("chip, G of 2", 2, 0, 1000, 1, 2, 2, 100);
        dueMake("chip, Z of G", NONE, 0, 1000, 1, 1000, 2, 100);
        dueMake("chip, Z of G + 2", 2, 0, 1001, 1, 1000, 2, 100);
        dueMake("chip, G below 0", NONE, 0, 1000, 1, 0, 2, 100);
        dueMake("chip heel 250 0 0", NONE, 0, 1000, 1, 500, 2, 100);
        dueMake("chip heel 249 0 0", 2, 0, 1000, 1, 500, 2, 100);
        dueMake("chip side 1 0 0", 2, 0, 1000, 1, 500, 2, 0);
        dueMake("chip, its PITCH is not looked at", 2, 0, 1000, 1, 500, 2, 100, 3, 99, 4, 3);
        FootprintRules x = chip("chip round 300 toe 50 0 1", 1000, 601, 100);
        due("Z is 1200, G 600", x.make(0, 0), 2);
        due("Z", x.pad(0, 1), -600);
        due("G", x.pad(1, 1), 300);
        due("X", x.pad(1, 4), 600);
        due("Z is 1200", x.make(0, 1), 2);
        due("Z", x.pad(0, 1), -600);
        x.span(INNER, 599, 5000);
        due("G of 0", x.make(0, 1), NONE);
        x.span(OUTER, 0, 1199);
        x.span(INNER, 1199, 5000);
        due("ends that count: high of OUTER, low of INNER", x.make(0, 1), 2);
        due("width", x.pad(0, 3), 300);
    }

    private static void promise5Wing() {
        said("Promise 5");
        dueRefusedWithout("wing", OUTER, INNER, LEAD, PITCH, COUNT);
        long[] counts = {0, 1, 2, 3, 4, 63, 64, 65, 66};
        for (long count : counts) {
            boolean fits = count == 2 || count == 4 || count == 64;
            dueMake("wing", fits ? count : NONE, 0, 1000, 1, 500, 2, 100, 3, 200, 4, count);
        }
        dueMake("wing, odd PITCH", NONE, 0, 1000, 1, 500, 2, 100, 3, 201, 4, 4);
        dueMake("wing, PITCH of 0", NONE, 0, 1000, 1, 500, 2, 100, 3, 0, 4, 4);
        dueMake("wing, X of PITCH", NONE, 0, 1000, 1, 500, 2, 200, 3, 200, 4, 4);
        dueMake("wing, X of PITCH - 2", 4, 0, 1000, 1, 500, 2, 198, 3, 200, 4, 4);
        dueMake("wing, X with one pad a side", NONE, 0, 1000, 1, 500, 2, 200, 3, 200, 4, 2);
        dueMake("wing, X of 0", NONE, 0, 1000, 1, 500, 2, 0, 3, 200, 4, 4);
        dueMake("wing, rows longer than G", 64, 0, 1000, 1, 500, 2, 100, 3, 2000, 4, 64);
        dueRefusedUnexact("wing", PITCH, COUNT);
    }

    private static void promise5Less() {
        said("Promise 5");
        dueRefusedWithout("less", OUTER, INNER, LEAD, PITCH, COUNT);
        long[] counts = {0, 2, 4, 6, 8, 62, 64, 68};
        for (long count : counts) {
            boolean fits = count == 4 || count == 8 || count == 64;
            dueMake("less", fits ? count : NONE, 0, 9000, 1, 8000, 2, 100, 3, 200, 4, count);
        }
        dueMake("less, rows of G", 12, 0, 1000, 1, 500, 2, 100, 3, 200, 4, 12);
        dueMake("less, rows of G + 2", NONE, 0, 1000, 1, 500, 2, 102, 3, 200, 4, 12);
        dueMake("less, X of G", 4, 0, 1000, 1, 500, 2, 500, 3, 600, 4, 4);
        dueMake("less, X above G", NONE, 0, 1000, 1, 500, 2, 502, 3, 600, 4, 4);
        dueRefusedUnexact("less", PITCH, COUNT);
    }

    private static void promise5Thermal() {
        said("Promise 5");
        dueMake("less", 13, 0, 1000, 1, 500, 2, 100, 3, 200, 4, 12, 8, 498, 9, 1);
        dueMake("less, length of G", NONE, 0, 1000, 1, 500, 2, 100, 3, 200, 4, 12, 8, 499, 9, 1);
        dueMake("less, width of G", NONE, 0, 1000, 1, 500, 2, 100, 3, 200, 4, 12, 8, 1, 9, 499);
        dueMake("less, length of 0", NONE, 0, 1000, 1, 500, 2, 100, 3, 200, 4, 12, 8, 0, 9, 4);
        dueMake("less, width of 0", NONE, 0, 1000, 1, 500, 2, 100, 3, 200, 4, 12, 8, 4, 9, 0);
        dueMake("less, one span alone", 12, 0, 1000, 1, 500, 2, 100, 3, 200, 4, 12, 8, 4000);
        dueMake("less, one span alone", 12, 0, 1000, 1, 500, 2, 100, 3, 200, 4, 12, 9, 0);
        dueMake("wing, no such pad", 12, 0, 1000, 1, 500, 2, 100, 3, 200, 4, 12, 8, 9, 9, 9);
    }

    private static void promise5Ball() {
        said("Promise 5");
        dueRefusedWithout("ball", PITCH, ROWS, COLUMNS, BALL);
        long[] lines = {0, 1, 8, 9};
        for (long line : lines) {
            boolean fits = line == 1 || line == 8;
            dueMake("ball rows", fits ? 3 * line : NONE, 3, 200, 5, line, 6, 3, 7, 100);
            dueMake("ball columns", fits ? 3 * line : NONE, 3, 200, 5, 3, 6, line, 7, 100);
        }
        dueMake("ball, D of PITCH", NONE, 3, 200, 5, 2, 6, 2, 7, 199);
        dueMake("ball, D of PITCH - 2", 4, 3, 200, 5, 2, 6, 2, 7, 198);
        dueMake("ball, D of 0", NONE, 3, 200, 5, 2, 6, 2, 7, 0);
        dueMake("ball, odd PITCH", NONE, 3, 201, 5, 2, 6, 2, 7, 100);
        dueMake("ball side 1 0 0", 4, 3, 200, 5, 2, 6, 2, 7, 0);
        dueRefusedUnexact("ball", PITCH, ROWS, COLUMNS);
        FootprintRules x = made("ball", 3, 200, 5, 1, 6, 2, 7, 100);
        x.leave(1);
        due("one is left", x.make(0, 0), 1);
        x.leave(2);
        due("none is left", x.make(0, 0), NONE);
    }

    private static void promise5Hole() {
        said("Promise 5");
        dueRefusedWithout("hole", OUTER, LEAD, PITCH, COUNT);
        dueMake("hole", 8, 0, 1000, 2, 100, 3, 200, 4, 8);
        dueMake("hole, odd COUNT", NONE, 0, 1000, 2, 100, 3, 200, 4, 7);
        dueMake("hole, COUNT of 66", NONE, 0, 1000, 2, 100, 3, 200, 4, 66);
        dueMake("hole, odd OUTER", NONE, 0, 1001, 2, 100, 3, 200, 4, 8);
        dueMake("hole, odd PITCH", NONE, 0, 1000, 2, 100, 3, 201, 4, 8);
        dueMake("hole, OUTER of 0", NONE, 0, 0, 2, 100, 3, 200, 4, 8);
        dueMake("hole, width of PITCH", NONE, 0, 1000, 2, 199, 3, 200, 4, 8);
        dueMake("hole, width of PITCH - 2", 8, 0, 1000, 2, 198, 3, 200, 4, 8);
        dueMake("hole, width of OUTER", NONE, 0, 100, 2, 99, 3, 200, 4, 8);
        dueMake("hole, width of OUTER - 2", 8, 0, 100, 2, 98, 3, 200, 4, 8);
        dueMake("hole side 49 0 0", NONE, 0, 1000, 2, 102, 3, 200, 4, 8);
        dueMake("hole side 48 0 0", 8, 0, 1000, 2, 102, 3, 200, 4, 8);
        dueMake("hole side 5 0 0, d of 0", NONE, 0, 1000, 2, 0, 3, 200, 4, 8);
        dueMake("hole heel 1 0 0", 8, 0, 1000, 2, 0, 3, 200, 4, 8);
        dueRefusedUnexact("hole", OUTER, PITCH, COUNT);
    }

    private static void promise5LargeValues() {
        said("Promise 5");
        FootprintRules x = made("wing round 10000000 mask 10000000 court 0 0 10000000",
                0, 100000000, 1, 20000000, 2, 79999999, 3, 100000000, 4, 64);
        due("the longest row", x.make(0, 2), 64);
        due("low side", x.pad(31, 2), -1590000000);
        due("mask", x.mask(31, 1), -1600000000);
        due("mask", x.mask(31, 3), 100000000);
        due("court", x.court(1), -1600000000);
        due("court", x.court(3), 1600000000);
    }

    private static void promise6Pad() {
        said("Promise 6");
        FootprintRules x = made("wing round 5 toe 10 20 30 heel 1 2 3 side 4 5 6",
                0, 1000, 1, 500, 2, 100, 3, 200, 4, 6);
        due("make", x.make(0, 1), 6);
        // Z = UP (1040, 10), G = DOWN (496, 10), X = UP (110, 10).
        duePad(x, 0, 1, -520, 145, 275, 110, 0, 0);
        duePad(x, 1, 2, -520, -55, 275, 110, 0, 0);
        duePad(x, 2, 3, -520, -255, 275, 110, 0, 0);
        duePad(x, 3, 4, 245, -255, 275, 110, 0, 0);
        duePad(x, 4, 5, 245, -55, 275, 110, 0, 0);
        duePad(x, 5, 6, 245, 145, 275, 110, 0, 0);
        due("density 0", x.make(0, 0), 6);
        duePad(x, 0, 1, -510, 145, 265, 110, 0, 0);
        due("density 2", x.make(0, 2), 6);
        duePad(x, 0, 1, -530, 140, 285, 120, 0, 0);
        due("two", dueTold(x, COUNT, 4), 4);
        duePad(x, 0, 1, -510, 45, 265, 110, 0, 0);
        int[] wrongOnes = {-1, 4, Integer.MAX_VALUE, Integer.MIN_VALUE};
        for (int k : wrongOnes) {
            dueThrow("pad " + k, IndexOutOfBoundsException.class, () -> x.pad(k, 0));
        }
        int[] whats = {-1, 7, Integer.MAX_VALUE, Integer.MIN_VALUE};
        for (int what : whats) {
            dueThrow("what " + what, IndexOutOfBoundsException.class, () -> x.pad(0, what));
        }
    }

    private static void promise6PadsOfLess() {
        said("Promise 6");
        FootprintRules x = made("less", 0, 1000, 1, 500, 2, 100, 3, 200, 4, 8, 8, 301, 9, 200);
        due("make", x.make(0, 0), 9);
        duePad(x, 0, 1, -500, 50, 250, 100, 0, 0);
        duePad(x, 1, 2, -500, -150, 250, 100, 0, 0);
        duePad(x, 2, 3, -150, -500, 100, 250, 0, 0);
        duePad(x, 3, 4, 50, -500, 100, 250, 0, 0);
        duePad(x, 4, 5, 250, -150, 250, 100, 0, 0);
        duePad(x, 5, 6, 250, 50, 250, 100, 0, 0);
        duePad(x, 6, 7, 50, 250, 100, 250, 0, 0);
        duePad(x, 7, 8, -150, 250, 100, 250, 0, 0);
        duePad(x, 8, 9, -151, -100, 302, 200, 0, 0);
        dueCourt(x, -500, -500, 500, 500);
        x.span(THERMAL_LENGTH, 1, 400);
        x.span(THERMAL_WIDTH, 2, 299);
        due("their high ends", x.make(0, 0), 9);
        duePad(x, 8, 9, -200, -150, 400, 300, 0, 0);
    }

    private static void promise6PadsOfBall() {
        said("Promise 6");
        FootprintRules x = made("ball side 1 2 3 round 5", 3, 200, 5, 2, 6, 3, 7, 101);
        due("make", x.make(0, 2), 6);
        duePad(x, 0, 1, -255, 45, 110, 110, 1, 0);
        duePad(x, 1, 2, -55, 45, 110, 110, 1, 0);
        duePad(x, 2, 3, 145, 45, 110, 110, 1, 0);
        duePad(x, 3, 4, -255, -155, 110, 110, 1, 0);
        duePad(x, 5, 6, 145, -155, 110, 110, 1, 0);
        FootprintRules y = made("ball side 10 20 30", 3, 200, 5, 1, 6, 1);
        y.span(BALL, 50, 80);
        due("BALL's high end, twice the side", y.make(0, 1), 1);
        duePad(y, 0, 1, -60, -60, 120, 120, 1, 0);
    }

    private static void promise6PadsOfHole() {
        said("Promise 6");
        FootprintRules x = made("hole heel 5 6 7 side 11 12 13 round 10",
                0, 1000, 2, 100, 3, 202, 4, 4);
        due("make", x.make(0, 1), 4);
        // d = UP (112, 20) = 120, the width 120 + 2 UP (12, 10) = 160.
        duePad(x, 0, 1, -580, 21, 160, 160, 1, 120);
        duePad(x, 1, 2, -580, -181, 160, 160, 1, 120);
        duePad(x, 2, 3, 420, -181, 160, 160, 1, 120);
        duePad(x, 3, 4, 420, 21, 160, 160, 1, 120);
        FootprintRules y = made("hole heel 10 20 30", 0, 1000, 3, 200, 4, 2);
        y.span(LEAD, 50, 80);
        due("LEAD's high end, twice the heel", y.make(0, 1), 2);
        duePad(y, 1, 2, 440, -60, 120, 120, 1, 120);
    }

    private static void promise7Name() {
        said("Promise 7");
        FootprintRules x = chip("chip name RES", 1234999, 500, 100);
        x.make(0, 0);
        dueUnits("density 0", "RES2X1234L", x::name);
        x.make(0, 1);
        dueUnits("density 1", "RES2X1234N", x::name);
        x.make(0, 2);
        dueUnits("density 2", "RES2X1234M", x::name);
        x.span(OUTER, 0, 999);
        dueUnits("the footprint stays", "RES2X1234M", x::name);
        x.make(0, 2);
        dueUnits("below 1,000", "RES2X0M", x::name);
        due("far behind", x.name(Integer.MAX_VALUE), NONE);
        dueThrow("name -1", IndexOutOfBoundsException.class, () -> x.name(-1));
        dueThrow("name least", IndexOutOfBoundsException.class, () -> x.name(Integer.MIN_VALUE));

        FootprintRules y = made("ball", 3, 200, 5, 3, 6, 5, 7, 100);
        y.leave(2);
        y.make(0, 0);
        dueUnits("no OUTER, 14 balls", "BALL14X0L", y::name);
        y.span(OUTER, 7, 100000000);
        y.make(0, 0);
        dueUnits("OUTER", "BALL14X100000L", y::name);
        String[] kinds = {"wing", "less", "hole"};
        for (String kind : kinds) {
            FootprintRules z = made(kind, 0, 2000, 1, 1000, 2, 100, 3, 200, 4, 8);
            z.make(0, 1);
            dueUnits(kind, kind.toUpperCase() + "8X2N", z::name);
        }
    }

    private static void promise8Court() {
        said("Promise 8");
        FootprintRules x = chip("chip court 100 20 3 round 7", 1000, 500, 100);
        x.make(0, 1);
        // Z = UP (1000, 14) = 1008, X = UP (100, 14) = 112.
        dueCourt(x, -525, -77, 525, 77);
        x.span(BODY_LENGTH, 0, 2000);
        x.make(0, 1);
        dueCourt(x, -525, -77, 525, 77);
        x.span(BODY_WIDTH, 0, 300);
        dueCourt(x, -525, -77, 525, 77);
        x.make(0, 2);
        // The body is UP (2000, 14) = 2002 by UP (300, 14) = 308.
        dueCourt(x, -1008, -161, 1008, 161);
        x.make(0, 0);
        dueCourt(x, -1106, -259, 1106, 259);
        int[] sides = {-1, 4, Integer.MAX_VALUE, Integer.MIN_VALUE};
        for (int side : sides) {
            dueThrow("side " + side, IndexOutOfBoundsException.class, () -> x.court(side));
        }
        FootprintRules y = made("ball", 3, 200, 5, 2, 6, 2, 7, 100);
        y.leave(2);
        y.leave(3);
        y.leave(4);
        y.make(0, 0);
        dueCourt(y, -150, 50, -50, 150);
        y.span(BODY_LENGTH, 0, 0);
        y.span(BODY_WIDTH, 0, 0);
        y.make(0, 0);
        dueCourt(y, -150, 0, 0, 150);
    }

    private static void promise9Mask() {
        said("Promise 9");
        FootprintRules x = chip("chip mask 13", 1000, 500, 100);
        x.make(0, 0);
        long[] due = {237, -63, 276, 126};
        for (int what = 0; what < 4; what++) {
            due("mask " + what, x.mask(1, what), due[what]);
        }
        int[] wrongOnes = {-1, 4, Integer.MAX_VALUE, Integer.MIN_VALUE};
        for (int what : wrongOnes) {
            dueThrow("what " + what, IndexOutOfBoundsException.class, () -> x.mask(0, what));
        }
        int[] pads = {-1, 2, Integer.MAX_VALUE, Integer.MIN_VALUE};
        for (int k : pads) {
            dueThrow("pad " + k, IndexOutOfBoundsException.class, () -> x.mask(k, 0));
        }
        FootprintRules y = made("hole mask 3", 0, 1000, 2, 100, 3, 200, 4, 2);
        y.make(0, 0);
        due("mask of a hole", y.mask(0, 0), -553);
        due("mask of a hole", y.mask(0, 3), 106);
    }

    private static void promise10PasteWhole() {
        said("Promise 10");
        FootprintRules x = chip("chip paste 10", 1000, 500, 100);
        x.make(0, 0);
        due("parts", x.paste(1, NONE), 1);
        duePart(x, 1, 0, 260, -40, 230, 80);
        int[] whats = {4, -2, Integer.MAX_VALUE, Integer.MIN_VALUE};
        for (int what : whats) {
            dueThrow("what " + what, IndexOutOfBoundsException.class, () -> x.paste(0, what));
        }
        int[] pads = {-1, 2, Integer.MAX_VALUE, Integer.MIN_VALUE};
        for (int k : pads) {
            dueThrow("pad " + k, IndexOutOfBoundsException.class, () -> x.paste(k, NONE));
        }
        FootprintRules y = made("ball paste 10 part 10000 gap 5",
                3, 60000, 5, 1, 6, 1, 7, 50000);
        y.make(0, 0);
        due("a round one is not cut", y.paste(0, NONE), 1);
        duePart(y, 0, 0, -24990, -24990, 49980, 49980);
    }

    private static void promise10PasteParts() {
        said("Promise 10");
        // A pad of 100,000 by 20,002 at -150,000, -10,001.
        FootprintRules x = chip("chip part 30000 gap 2001 paste 1", 300000, 100000, 20002);
        x.make(0, 0);
        // 99,998 in four: (99,998 - 6,003) / 4 = 23,498, 3 left over; three would be 31,998.
        due("parts", x.paste(0, NONE), 4);
        duePart(x, 0, 0, -149998, -10000, 23498, 20000);
        duePart(x, 0, 1, -124499, -10000, 23498, 20000);
        duePart(x, 0, 3, -73501, -10000, 23498, 20000);
        dueThrow("part 4", IndexOutOfBoundsException.class, () -> x.paste(0, 16));

        // 25,002 in three of 8,334; 40,002 in four of 10,000, 2 left over.
        FootprintRules y = made("less part 10000", 0, 200000, 1, 150000, 2, 1000, 3, 2000, 4, 4,
                8, 25002, 9, 40002);
        y.make(0, 0);
        due("parts", y.paste(4, NONE), 12);
        duePart(y, 4, 0, -12501, -20000, 8334, 10000);
        duePart(y, 4, 1, -4167, -20000, 8334, 10000);
        duePart(y, 4, 2, 4167, -20000, 8334, 10000);
        duePart(y, 4, 3, -12501, -10000, 8334, 10000);
        duePart(y, 4, 11, 4167, 10000, 8334, 10000);
        dueThrow("part 12", IndexOutOfBoundsException.class, () -> y.paste(4, 48));
        duePastePartsAtEdges();
    }

    private static void duePastePartsAtEdges() {
        FootprintRules x = chip("chip part 50000 gap 10", 200000, 100000, 50000);
        x.make(0, 0);
        due("as wide as part", x.paste(0, NONE), 1);
        x.span(OUTER, 0, 200001);
        x.make(0, 0);
        due("wider by 1", x.paste(0, NONE), 2);
        duePart(x, 0, 0, -100001, -25000, 24995, 50000);
        duePart(x, 0, 1, -74996, -25000, 24995, 50000);
        x.span(OUTER, 0, 300020);
        x.make(0, 0);
        due("two of part and a gap", x.paste(0, NONE), 2);
        x.span(OUTER, 0, 300022);
        x.make(0, 0);
        due("two of part, a gap, 1 over", x.paste(0, NONE), 2);
        duePart(x, 0, 0, -150011, -25000, 50000, 50000);
        x.span(OUTER, 0, 300024);
        x.make(0, 0);
        due("two of part, a gap, 2 over", x.paste(0, NONE), 3);
        duePart(x, 0, 0, -150011, -25000, 33330, 50000);
    }

    private static void promise10PasteNone() {
        said("Promise 10");
        FootprintRules x = chip("chip paste 50", 1000, 500, 100);
        x.make(0, 0);
        due("nothing is left upwards", x.paste(0, NONE), 0);
        dueThrow("no part", IndexOutOfBoundsException.class, () -> x.paste(0, 0));
        x.span(LEAD, 0, 102);
        x.make(0, 0);
        due("2 is left", x.paste(0, NONE), 1);
        FootprintRules y = chip("chip paste 125", 1000, 500, 800);
        y.make(0, 0);
        due("nothing is left across", y.paste(0, NONE), 0);
        FootprintRules z = chip("chip part 10000 gap 10001", 120004, 100000, 5000);
        z.make(0, 0);
        due("nothing is left of a part", z.paste(0, NONE), 0);
        dueThrow("no part", IndexOutOfBoundsException.class, () -> z.paste(0, 0));
        z.span(OUTER, 0, 120006);
        z.make(0, 0);
        due("1 is left of a part", z.paste(0, NONE), 2);
        duePart(z, 0, 1, -60003 + 10002, -2500, 1, 5000);
        FootprintRules h = made("hole", 0, 1000, 2, 100, 3, 200, 4, 2);
        h.make(0, 0);
        due("one with a hole", h.paste(0, NONE), 0);
    }

    private static void promise11Leave() {
        said("Promise 11");
        FootprintRules x = made("ball", 3, 200, 5, 2, 6, 2, 7, 100);
        x.make(0, 0);
        dueTrue("left out", x.leave(2));
        due("the footprint stays", x.pad(1, 0), 2);
        due("one less", x.make(0, 0), 3);
        due("number 1", x.pad(0, 0), 1);
        due("number 3", x.pad(1, 0), 3);
        due("its left side", x.pad(1, 1), -150);
        due("its low side", x.pad(1, 2), -150);
        dueTrue("another, not there", x.leave(64));
        due("nothing changed", x.make(0, 0), 3);
        dueFalse("not any more", x.leave(2));
        due("all of them", x.make(0, 0), 4);
        dueTrue("left out again", x.leave(2));
        dueTrue("the first", x.leave(1));
        int[] balls = {0, 65, -1, Integer.MAX_VALUE, Integer.MIN_VALUE};
        for (int ball : balls) {
            dueThrow("ball " + ball, IllegalArgumentException.class, () -> x.leave(ball));
        }
        FootprintRules y = made("ball", 3, 200, 5, 8, 6, 8, 7, 100);
        due("64 balls", y.make(0, 0), 64);
        y.leave(64);
        due("63 balls", y.make(0, 0), 63);
    }

    private static void promise12Via() {
        said("Promise 12");
        FootprintRules x = made("less via 10000", 0, 200000, 1, 150000, 2, 1000, 3, 2000, 4, 4,
                8, 39998, 9, 20000);
        x.make(0, 0);
        due("how many", x.via(NONE, 0), 6);
        due("axis is not looked at", x.via(NONE, 77), 6);
        long[][] due = {{-10000, -5000}, {0, -5000}, {10000, -5000},
            {-10000, 5000}, {0, 5000}, {10000, 5000}};
        for (int k = 0; k < 6; k++) {
            due("via " + k, x.via(k, 0), due[k][0]);
            due("via " + k, x.via(k, 1), due[k][1]);
        }
        int[] vias = {6, -2, Integer.MAX_VALUE, Integer.MIN_VALUE};
        for (int k : vias) {
            dueThrow("via " + k, IndexOutOfBoundsException.class, () -> x.via(k, 0));
        }
        int[] axes = {-1, 2, Integer.MAX_VALUE, Integer.MIN_VALUE};
        for (int axis : axes) {
            dueThrow("axis " + axis, IndexOutOfBoundsException.class, () -> x.via(0, axis));
        }
        x.span(THERMAL_WIDTH, 0, 9998);
        x.make(0, 0);
        due("too low a pad", x.via(NONE, 0), 0);
        tellFamily(x, "less");
        x.span(THERMAL_WIDTH, 0, 20000);
        x.make(1, 0);
        due("via of 0", x.via(NONE, 0), 0);
        dueThrow("no via", IndexOutOfBoundsException.class, () -> x.via(0, 0));
        tellFamily(x, "wing via 10000");
        due("wing", x.make(2, 0), 4);
        due("no THERMAL pad", x.via(NONE, 0), 0);
        dueNoThermalAfterOne();
    }

    private static void dueNoThermalAfterOne() {
        FootprintRules x = made("less via 10000", 0, 200000, 1, 150000, 2, 1000, 3, 2000, 4, 4,
                8, 39998, 9, 20000);
        x.make(0, 0);
        x.clear();
        long[] told = {0, 200000, 1, 150000, 2, 1000, 3, 2000, 4, 4, 8, 39998};
        tellSpans(x, told);
        due("less", x.make(0, 0), 4);
        due("the THERMAL pad is gone", x.via(NONE, 0), 0);
    }

    private static void promise13Check() {
        said("Promise 13");
        FootprintRules x = chip("chip", 1000, 500, 100);
        x.make(0, 0);
        due("no hand-made ones", x.check(), 2);
        x.hand(1, -500, -50, 250, 100);
        due("one is the same", x.check(), 1);
        x.hand(2, 250, -50, 250, 100);
        due("both are the same", x.check(), 0);
        x.hand(3, 250, -50, 250, 100);
        due("one too many", x.check(), 1);
        x.hand(80, 1, 1, 1, 1);
        due("two too many", x.check(), 2);
        long[][] other = {{251, -50, 250, 100}, {250, -51, 250, 100}, {250, -50, 251, 100},
            {250, -50, 250, 99}, {251, -51, 251, 101}};
        for (long[] box : other) {
            x.hand(2, box[0], box[1], box[2], box[3]);
            due("one differs", x.check(), 3);
        }
        x.span(OUTER, 0, 2000);
        x.make(0, 0);
        due("the hand-made ones stay", x.check(), 4);
        FootprintRules y = made("ball", 3, 200, 5, 1, 6, 2, 7, 100);
        y.leave(1);
        y.make(0, 0);
        y.hand(1, 50, -50, 100, 100);
        due("by numbers, not by places", y.check(), 2);
        y.hand(2, 50, -50, 100, 100);
        due("the number that is there", y.check(), 1);
    }

    private static void promise14Hand() {
        said("Promise 14");
        FootprintRules x = new FootprintRules();
        dueTrue("new", x.hand(1, -100000000, 100000000, 1, 100000000));
        dueTrue("new", x.hand(80, 100000000, -100000000, 100000000, 1));
        dueFalse("again", x.hand(1, 0, 0, 1, 1));
        dueFalse("and again", x.hand(1, 0, 0, 1, 1));
        int[] numbers = {0, 81, -1, Integer.MAX_VALUE, Integer.MIN_VALUE};
        for (int k : numbers) {
            dueThrow("number " + k, IndexOutOfBoundsException.class, () -> x.hand(k, 0, 0, 1, 1));
            dueThrow("number first", IndexOutOfBoundsException.class, () -> x.hand(k, 0, 0, 0, 0));
        }
        long[] sides = {-100000001, 100000001, Long.MIN_VALUE, Long.MAX_VALUE};
        for (long v : sides) {
            dueThrow("x " + v, IllegalArgumentException.class, () -> x.hand(2, v, 0, 1, 1));
            dueThrow("y " + v, IllegalArgumentException.class, () -> x.hand(2, 0, v, 1, 1));
        }
        long[] sizes = {0, -1, 100000001, Long.MIN_VALUE, Long.MAX_VALUE};
        for (long v : sizes) {
            dueThrow("w " + v, IllegalArgumentException.class, () -> x.hand(2, 0, 0, v, 1));
            dueThrow("h " + v, IllegalArgumentException.class, () -> x.hand(2, 0, 0, 1, v));
        }
        dueTrue("what throws makes none", x.hand(2, 0, 0, 1, 1));
        FootprintRules y = chip("chip", 1000, 500, 100);
        y.make(0, 0);
        y.hand(1, 0, 0, 1, 1);
        y.hand(2, 250, -50, 250, 100);
        due("one differs", y.check(), 1);
        y.hand(1, -500, -50, 250, 100);
        due("the last one counts", y.check(), 0);
    }

    private static void promise15Text() {
        said("Promise 15");
        FootprintRules x = chip("chip court 10 20 30 name AB", 2001, 500, 100);
        x.make(0, 0);
        dueUnits("chip", "AB2X2L\n1 -1001 -50 751 100 0 0\n2 250 -50 751 100 0 0\n"
                + "court -1011 -60 1011 60\n", x::text);
        due("far behind", x.text(Integer.MAX_VALUE), NONE);
        dueThrow("text -1", IndexOutOfBoundsException.class, () -> x.text(-1));
        dueThrow("text least", IndexOutOfBoundsException.class, () -> x.text(Integer.MIN_VALUE));
        x.make(0, 2);
        dueUnits("another density", "AB2X2M\n1 -1001 -50 751 100 0 0\n2 250 -50 751 100 0 0\n"
                + "court -1031 -80 1031 80\n", x::text);
        FootprintRules y = made("hole side 5 5 5", 0, 1000, 2, 90, 3, 200, 4, 2);
        y.make(0, 1);
        dueUnits("hole", "HOLE2X1N\n1 -550 -50 100 100 1 90\n2 450 -50 100 100 1 90\n"
                + "court -550 -50 550 50\n", y::text);
        FootprintRules z = made("ball", 3, 200, 5, 1, 6, 2, 7, 100);
        z.leave(1);
        z.make(0, 0);
        dueUnits("ball", "BALL1X0L\n2 50 -50 100 100 1 0\ncourt 50 -50 150 50\n", z::text);
    }

    private static void promise16Clear() {
        said("Promise 16");
        FootprintRules x = made("ball", 3, 200, 5, 2, 6, 2, 7, 100);
        x.leave(1);
        x.hand(5, 0, 0, 1, 1);
        due("make", x.make(0, 0), 3);
        tell(x, "bell");
        x.clear();
        dueNothingAtHand(x);
        due("no words", x.family(), -1);
        due("families stay, no spans", x.make(0, 0), NONE);
        long[] told = {3, 200, 5, 2, 6, 2, 7, 100};
        tellSpans(x, told);
        due("no balls LEFT OUT", x.make(0, 0), 4);
        due("no hand-made pads", x.check(), 4);
        dueTrue("no hand-made pad", x.hand(5, 0, 0, 1, 1));
        dueTrue("ball 1 was not left out", x.leave(1));
        dueUnits("OUTER is not told", "BALL4X0L", x::name);
    }

    // What the methods above use.

    /** Tells all spans that a kind may need, but one of those that are named, in turn. */
    private static void dueRefusedWithout(String kind, int... needed) {
        long[] all = {2000, 1000, 100, 200, 8, 2, 2, 100};
        for (int without = 0; without < all.length; without++) {
            FootprintRules x = new FootprintRules();
            tellFamily(x, kind);
            for (int what = 0; what < all.length; what++) {
                if (what != without) {
                    x.span(what, all[what], all[what]);
                }
            }
            boolean isNeeded = false;
            for (int what : needed) {
                isNeeded |= what == without;
            }
            int made = x.make(0, 0);
            due(kind + " without " + without + " is refused", made == NONE ? 1 : 0,
                    isNeeded ? 1 : 0);
        }
    }

    /** Tells all spans with two ends, but those that must be EXACT; then one of these, too. */
    private static void dueRefusedUnexact(String kind, int... exact) {
        long[] lows = {1998, 1000, 90, 198, 4, 1, 1, 90};
        long[] highs = {2000, 1002, 100, 200, 8, 2, 2, 100};
        for (int i = -1; i < exact.length; i++) {
            FootprintRules x = new FootprintRules();
            tellFamily(x, kind);
            for (int what = 0; what < highs.length; what++) {
                x.span(what, lows[what], highs[what]);
            }
            for (int j = 0; j < exact.length; j++) {
                if (j != i) {
                    x.span(exact[j], highs[exact[j]], highs[exact[j]]);
                }
            }
            int made = x.make(0, 0);
            due(kind + " refused with two ends of " + i, made == NONE ? 1 : 0, i >= 0 ? 1 : 0);
        }
    }

    /** A remark may stand behind a comma in the words. */
    private static void dueMake(String words, long due, long... told) {
        String plain = words.indexOf(',') < 0 ? words : words.substring(0, words.indexOf(','));
        plain = plain.replace(" rows", "").replace(" columns", "");
        due(words, made(plain, told).make(0, 0), due);
    }

    private static int dueTold(FootprintRules x, int what, long v) {
        x.span(what, v, v);
        return x.make(0, 0);
    }

    private static FootprintRules chip(String words, long outer, long inner, long lead) {
        return made(words, OUTER, outer, INNER, inner, LEAD, lead);
    }
}
