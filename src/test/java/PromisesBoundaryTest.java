/** The boundary cases of the document's promises, sentence by sentence. */
public final class PromisesBoundaryTest extends Checks {
    private interface Call {
        void on(FootprintRules x);
    }

    public static void main(String[] args) {
        promise1();
        promise2();
        promise3();
        promise3Families();
        promise4();
        promise5();
        promise5Refused();
        promise5OneAfterAnother();
        promise6();
        promise7();
        promise8();
        promise9();
        promise10();
        promise11();
        promise12();
        promise13();
        promise14();
        promise15();
        promise16();
        refusedCalls();
        end();
    }

    private static void promise1() {
        said("No words, no families, no spans, no footprint.");
        due("no words", new FootprintRules().family(), -1);
        FootprintRules x = new FootprintRules();
        dueThrow("no families", IndexOutOfBoundsException.class, () -> x.make(0, 0));
        dueNothingAtHand(new FootprintRules());
        for (String kind : KINDS) {
            FootprintRules y = new FootprintRules();
            due("the first one", tellFamily(y, kind), 0);
            due("no spans", y.make(0, 0), NONE);
        }
        due("no hand-made pads", checkOf(new FootprintRules()), 2);
        dueTrue("no balls LEFT OUT", new FootprintRules().leave(64));
    }

    private static int checkOf(FootprintRules x) {
        tellFamily(x, "chip");
        tellSpans(x, CHIP);
        x.make(0, 0);
        return x.check();
    }

    private static void promise2() {
        said("One more character of the words. False, refused, when it is not 32 .. 126 or 10");
        FootprintRules x = new FootprintRules();
        for (int u = -2; u <= 300; u++) {
            boolean isTaken = u >= 32 && u <= 126 || u == 10;
            dueTrue("unit " + u, x.unit(u) == isTaken);
        }
        int[] far = {Integer.MIN_VALUE, Integer.MAX_VALUE, 65536 + 'x', 256 + 'x', -'x'};
        FootprintRules y = new FootprintRules();
        tell(y, "chip");
        for (int u : far) {
            dueFalse("unit " + u, y.unit(u));
            dueFalse("unit 9", y.unit(9));
            dueFalse("unit 13", y.unit(13));
        }
        tell(y, " mask 5");
        due("what is refused is no part of the words", y.family(), 0);

        // More than the 512 calls that are promised, as the sentence can't be met with less.
        said("or there are 600");
        FootprintRules z = new FootprintRules();
        tell(z, "chip");
        for (int i = 4; i < 600; i++) {
            dueTrue("unit " + i, z.unit(' '));
        }
        dueFalse("the 601st", z.unit('x'));
        dueFalse("the 602nd", z.unit(' '));
        due("the words stay", z.family(), 0);
        dueTrue("there is room again", z.unit('x'));
        due("the new words", z.family(), -1);
    }

    private static void promise3() {
        said("A new family of the words that were collected, which are gone then: its number, "
                + "from 0");
        FootprintRules x = new FootprintRules();
        for (int i = 0; i < 8; i++) {
            due("family " + i, tellFamily(x, KINDS[i % 5]), i);
        }
        FootprintRules y = new FootprintRules();
        due("family", tellFamily(y, "chip"), 0);
        due("the words are gone", y.family(), -1);
        due("only the new words", tellFamily(y, "mask"), -1);

        said("or -1 minus the number (from 0) of the first word that is wrong");
        dueFamily("bell", -1);
        dueFamily("bell foot", -1);
        dueFamily("chip foot", -2);
        dueFamily("chip toe x x x", -3);
        dueFamily("chip toe 1 x x", -4);
        dueFamily("chip toe 1 2 x", -5);
        dueFamily("chip toe 1 2 3 x", -6);
        dueFamily("chip toe 1 2 3 mask x foot", -7);
        dueFamily("chip toe 1 2 3 toe x", -6);

        said("or how many there are, if one is lacking");
        dueFamily("", -1);
        dueFamily(" ", -1);
        dueFamily("\n", -1);
        dueFamily("chip toe", -3);
        dueFamily("chip toe 1", -4);
        dueFamily("chip toe 1 2", -5);
        dueFamily("chip toe 1 2 \n", -5);
        dueFamily("chip mask", -3);
        dueFamily("chip name", -3);
        dueFamily("chip mask 5 name ", -5);

        said("there is no new one, and the words are gone, too");
        FootprintRules z = new FootprintRules();
        due("wrong", tellFamily(z, "chip foot"), -2);
        dueThrow("there is no new one", IndexOutOfBoundsException.class, () -> z.make(0, 0));
        due("the words are gone", z.family(), -1);
        due("lacking", tellFamily(z, "chip toe 1"), -4);
        dueThrow("there is no new one", IndexOutOfBoundsException.class, () -> z.make(0, 0));
        due("what was lacking comes too late", tellFamily(z, "2 3"), -1);
        due("the first one", tellFamily(z, "chip"), 0);

        said("What is not told is 0, round 1, name the kind's letters as capitals.");
        FootprintRules w = made("chip", CHIP);
        due("wrong at its end", tellFamily(w, "wing toe 9 9 9 heel 9 9 9 side 9 9 9 court 9 9 9 "
                + "round 9 mask 9 paste 9 gap 9 part 10000 via 10000 name Q foot"), -32);
        due("the next one", tellFamily(w, "chip"), 1);
        for (int density = 0; density < 3; density++) {
            due("it is a chip", w.make(1, density), 2);
            duePad(w, 1, 2, 250, -50, 250, 100, 0, 0);
            dueCourt(w, -500, -50, 500, 50);
        }
        dueMask(w, 1, 250, -50, 250, 100);
        duePart(w, 1, 0, 250, -50, 250, 100);
        dueUnits("its name", "CHIP2X1M", w::name);
    }

    private static void promise3Families() {
        said("IllegalStateException, when there are 8 families.");
        FootprintRules x = new FootprintRules();
        for (int i = 0; i < 8; i++) {
            due("wrong words are no family", tellFamily(x, "bell"), -1);
            due("family " + i, tellFamily(x, "chip name " + (char) ('A' + i)), i);
        }
        dueThrow("no words", IllegalStateException.class, () -> x.family());
        tell(x, "chip");
        dueThrow("right words", IllegalStateException.class, () -> x.family());
        tell(x, " foot");
        dueThrow("wrong words", IllegalStateException.class, () -> x.family());
        tellSpans(x, CHIP);
        for (int i = 0; i < 8; i++) {
            due("make", x.make(i, 0), 2);
            due("each one stands", x.name(0), 'A' + i);
        }
        dueThrow("no ninth", IndexOutOfBoundsException.class, () -> x.make(8, 0));
        dueThrow("once more", IllegalStateException.class, () -> x.family());
        due("the footprint at hand stays", x.name(0), 'H');

        said("At most 8 families.");
        x.clear();
        tell(x, "chip");
        dueThrow("after clear, too", IllegalStateException.class, () -> x.family());
    }

    private static void promise4() {
        said("A span: false, changing nothing, when low is above high.");
        FootprintRules x = made("chip", CHIP);
        dueTrue("low as high", x.span(OUTER, 2000, 2000));
        dueTrue("low below high", x.span(OUTER, 1999, 2000));
        dueFalse("low above high by 1", x.span(OUTER, 3001, 3000));
        dueFalse("low above high by all", x.span(OUTER, LONGEST, 0));
        due("make", x.make(0, 0), 2);
        due("the span stays", x.pad(0, 1), -1000);
        FootprintRules y = made("chip", OUTER, 1000, INNER, 500);
        dueFalse("not told", y.span(LEAD, 100, 99));
        due("it is still not told", y.make(0, 0), NONE);
        dueTrue("told", y.span(LEAD, 99, 100));
        due("it is told", y.make(0, 0), 2);

        said("IndexOutOfBoundsException, when what is not 0 .. 11");
        int[] whats = {-1, 12, 13, -12, Integer.MAX_VALUE, Integer.MIN_VALUE};
        for (int what : whats) {
            dueThrow("what " + what, IndexOutOfBoundsException.class, () -> x.span(what, 0, 0));
        }
        dueTrue("what 0", x.span(0, 0, 0));
        dueTrue("what 11", x.span(11, 0, 0));

        said("IllegalArgumentException, when an end is not as said.");
        long[] ends = {-1, LONGEST + 1, Long.MIN_VALUE, Long.MAX_VALUE, 1L << 32, -1L << 32};
        for (long end : ends) {
            dueThrow("low " + end, IllegalArgumentException.class,
                    () -> x.span(INNER, end, LONGEST));
            dueThrow("high " + end, IllegalArgumentException.class, () -> x.span(INNER, 0, end));
            dueThrow("both " + end, IllegalArgumentException.class, () -> x.span(INNER, end, end));
        }
    }

    private static void promise5() {
        said("Makes a footprint of a family and density: how many pads");
        dueMake(2, "chip", CHIP);
        dueMake(2, "wing", with(WING, COUNT, 2));
        dueMake(64, "wing", with(WING, COUNT, 64));
        dueMake(1, "ball", with(GRID, ROWS, 1, COLUMNS, 1));
        dueMake(64, "ball", with(GRID, ROWS, 8, COLUMNS, 8));

        said("IndexOutOfBoundsException, when there is no such family");
        FootprintRules x = made("chip", CHIP);
        int[] families = {-1, 1, 7, 8, Integer.MAX_VALUE, Integer.MIN_VALUE};
        for (int family : families) {
            dueThrow("family " + family, IndexOutOfBoundsException.class, () -> x.make(family, 0));
        }
        due("the second one", tellFamily(x, "chip"), 1);
        due("family 1", x.make(1, 0), 2);
        dueThrow("family 2", IndexOutOfBoundsException.class, () -> x.make(2, 0));

        said("IllegalArgumentException, when density is not 0 .. 2.");
        int[] densities = {-1, 3, Integer.MAX_VALUE, Integer.MIN_VALUE};
        for (int density : densities) {
            dueThrow("density " + density, IllegalArgumentException.class,
                    () -> x.make(0, density));
        }
        for (int density = 0; density < 3; density++) {
            due("density " + density, x.make(0, density), 2);
        }
    }

    private static void promise5Refused() {
        said("NONE, refused, when something is not as said (there is none at hand then).");
        FootprintRules x = made("chip", CHIP);
        x.hand(1, -500, -50, 250, 100);
        tell(x, "wing");
        due("make", x.make(0, 0), 2);
        x.span(LEAD, 0, 0);
        due("the footprint at hand stays", x.pad(0, 1), -500);
        due("refused", x.make(0, 0), NONE);
        dueNothingAtHand(x);
        due("refused again", x.make(0, 1), NONE);
        x.span(LEAD, 100, 100);
        dueThrow("a span makes none", IllegalStateException.class, () -> x.pad(0, 0));
        due("made again", x.make(0, 0), 2);
        duePad(x, 0, 1, -500, -50, 250, 100, 0, 0);
        due("hand-made pads stay", x.check(), 1);
        due("words stay", x.family(), 1);
        // What a kind begins and then refuses, at its last rule.
        String[] kinds = {"less", "ball"};
        for (String kind : kinds) {
            FootprintRules y = made(kind, with(spansOf(kind), THERMAL_WIDTH, 500));
            dueTrue("make", y.make(0, 0) > 0);
            y.span(THERMAL_LENGTH, 0, LONGEST);
            for (int ball = 1; ball <= 6; ball++) {
                y.leave(ball);
            }
            due("refused", y.make(0, 0), NONE);
            dueNothingAtHand(y);
        }
    }

    /** Nothing of the footprint before is left in the one at hand, or in what was asked first. */
    private static void promise5OneAfterAnother() {
        said("Makes a footprint of a family and density");
        for (int before = 0; before < KINDS.length; before++) {
            for (int at = 0; at < KINDS.length; at++) {
                FootprintRules x = ofAllKinds();
                x.make(before, 0);
                String first = lookedAt(x);
                x.make(at, 1);
                String got = lookedAt(x);
                FootprintRules y = ofAllKinds();
                y.make(at, 1);
                dueSame(KINDS[at] + " behind " + KINDS[before], got, lookedAt(y));
                dueFalse("they are the same", got.equals(first));
            }
        }
    }

    private static FootprintRules ofAllKinds() {
        FootprintRules x = new FootprintRules();
        for (String kind : KINDS) {
            tellFamily(x, kind + (kind.equals("less") ? " part 10000" : " mask 3") + " via 10000");
        }
        tellSpans(x, new long[] {OUTER, 160000, INNER, 150000, LEAD, 1000, PITCH, 2000, COUNT, 8,
            ROWS, 2, COLUMNS, 2, BALL, 1000, THERMAL_LENGTH, 30002, THERMAL_WIDTH, 30004});
        return x;
    }

    /** From the last pad to the first, so that what the last one leaves would show. */
    private static String lookedAt(FootprintRules x) {
        StringBuilder s = new StringBuilder();
        for (int i = 0; i < 12; i++) {
            s.append((char) x.name(i));
        }
        int pads = x.check();
        int[] some = {pads - 1, 0};
        for (int k : some) {
            for (int what = 0; what < 7; what++) {
                s.append(x.pad(k, what)).append(' ');
            }
            int parts = x.paste(k, NONE);
            s.append(parts).append(' ');
            for (int what = 0; what < 8 && what < 4 * parts; what++) {
                s.append(x.paste(k, what)).append(' ');
            }
            s.append(x.mask(k, 0)).append(' ');
        }
        s.append(x.court(0)).append(' ').append(x.court(3)).append(' ').append(x.via(NONE, 0));
        for (int i = 8; i < 60; i++) {
            s.append((char) x.text(i));
        }
        return s.toString();
    }

    private static void promise6() {
        said("Of the k-th pad, from 0: its number (what 0), left side (1), low side (2), width "
                + "(3), height (4), 1 when it is round (5), its hole, or 0 (6).");
        FootprintRules x = made("less", with(LESS, THERMAL_LENGTH, 300, THERMAL_WIDTH, 200));
        x.make(0, 0);
        duePad(x, 0, 1, -1000, 50, 500, 100, 0, 0);
        duePad(x, 8, 9, -150, -100, 300, 200, 0, 0);
        FootprintRules ball = made("ball", GRID);
        ball.make(0, 0);
        duePad(ball, 5, 6, 150, -150, 100, 100, 1, 0);
        FootprintRules hole = made("hole side 5 5 5", HOLE);
        hole.make(0, 0);
        duePad(hole, 7, 8, 445, 245, 110, 110, 1, 100);

        said("IllegalStateException, when no footprint is at hand; otherwise "
                + "IndexOutOfBoundsException, when there is no such pad, or what.");
        int[] pads = {-1, 9, 65, Integer.MAX_VALUE, Integer.MIN_VALUE};
        for (int k : pads) {
            dueThrow("pad " + k, IndexOutOfBoundsException.class, () -> x.pad(k, 0));
        }
        int[] whats = {-1, 7, Integer.MAX_VALUE, Integer.MIN_VALUE};
        for (int what : whats) {
            dueThrow("what " + what, IndexOutOfBoundsException.class, () -> x.pad(8, what));
            dueThrow("neither", IndexOutOfBoundsException.class, () -> x.pad(9, what));
        }
        FootprintRules none = made("less", LESS);
        dueThrow("no footprint", IllegalStateException.class, () -> none.pad(0, 0));
        dueThrow("nor pad", IllegalStateException.class, () -> none.pad(-1, 7));
        // Of a footprint with fewer pads than the one before.
        x.span(COUNT, 4, 4);
        due("make", x.make(0, 0), 5);
        due("the last one", x.pad(4, 0), 5);
        dueThrow("behind it", IndexOutOfBoundsException.class, () -> x.pad(5, 0));
    }

    private static void promise7() {
        said("The i-th character of the NAME; NONE behind the last one. IllegalStateException "
                + "likewise; IndexOutOfBoundsException, when i is below 0.");
        FootprintRules x = made("chip name Q", CHIP);
        dueThrow("none at hand", IllegalStateException.class, () -> x.name(0));
        dueThrow("none at hand, below 0", IllegalStateException.class, () -> x.name(-1));
        x.make(0, 0);
        due("the first", x.name(0), 'Q');
        due("the last", x.name(4), 'L');
        due("behind it", x.name(5), NONE);
        due("two behind it", x.name(6), NONE);
        due("far behind", x.name(Integer.MAX_VALUE), NONE);
        dueThrow("below 0", IndexOutOfBoundsException.class, () -> x.name(-1));
        dueThrow("far below", IndexOutOfBoundsException.class, () -> x.name(Integer.MIN_VALUE));
        FootprintRules longest = made("less name WXYZ", OUTER, LONGEST, INNER, LONGEST - 2,
                LEAD, 100, PITCH, 200, COUNT, 64, THERMAL_LENGTH, 2, THERMAL_WIDTH, 2);
        longest.make(0, 2);
        dueUnits("the longest", "WXYZ65X100000M", longest::name);
        // A shorter one after a longer one.
        tellFamily(longest, "chip name A");
        longest.span(OUTER, 999, 999);
        longest.span(INNER, 2, 2);
        longest.make(1, 0);
        dueUnits("the shortest", "A2X0L", longest::name);
    }

    private static void promise8() {
        said("A side of the COURTYARD: left (0), low (1), right (2), high (3). Throws likewise.");
        FootprintRules x = made("ball", with(GRID, ROWS, 2, COLUMNS, 2));
        dueThrow("none at hand", IllegalStateException.class, () -> x.court(0));
        dueThrow("none at hand, nor side", IllegalStateException.class, () -> x.court(4));
        x.leave(1);
        x.leave(3);
        x.leave(4);
        x.make(0, 0);
        dueCourt(x, 50, 50, 150, 150);
        int[] sides = {-1, 4, Integer.MAX_VALUE, Integer.MIN_VALUE};
        for (int side : sides) {
            dueThrow("side " + side, IndexOutOfBoundsException.class, () -> x.court(side));
        }
    }

    private static void promise9() {
        said("Of the k-th pad's MASK: left side (0), low side (1), width (2), height (3). Throws "
                + "likewise.");
        FootprintRules x = made("chip mask 7", CHIP);
        dueThrow("none at hand", IllegalStateException.class, () -> x.mask(0, 0));
        dueThrow("none at hand, nor pad", IllegalStateException.class, () -> x.mask(-1, 4));
        x.make(0, 0);
        dueMask(x, 0, -507, -57, 264, 114);
        dueMask(x, 1, 243, -57, 264, 114);
        int[] pads = {-1, 2, Integer.MAX_VALUE, Integer.MIN_VALUE};
        for (int k : pads) {
            dueThrow("pad " + k, IndexOutOfBoundsException.class, () -> x.mask(k, 0));
        }
        int[] whats = {-1, 4, Integer.MAX_VALUE, Integer.MIN_VALUE};
        for (int what : whats) {
            dueThrow("what " + what, IndexOutOfBoundsException.class, () -> x.mask(1, what));
        }
        // The farthest that there is.
        FootprintRules far = made("wing mask 10000000", with(WING, PITCH, LONGEST, COUNT, 64,
                LEAD, LONGEST - 2));
        far.make(0, 0);
        due("the lowest", far.mask(31, 1), -1609999999);
        due("height", far.mask(31, 3), 119999998);
    }

    private static void promise10() {
        said("Of the k-th pad's PASTE: how many parts (what NONE); of part j = what / 4, in rows "
                + "from the lowest, from left to right: left side, low side, width, height, by "
                + "what's rest. Throws likewise.");
        // 20,002 by 20,004: two columns of 10,000, a gap of 1, 1 left over; three rows of 6,667.
        FootprintRules x = made("chip part 10000 gap 1", OUTER, 60002, INNER, 19998, LEAD, 20004);
        dueThrow("none at hand", IllegalStateException.class, () -> x.paste(0, NONE));
        dueThrow("none at hand, nor pad", IllegalStateException.class, () -> x.paste(-1, -2));
        x.make(0, 0);
        due("width", x.pad(1, 3), 20002);
        duePasteCount(x, 1, 6);
        long[] lefts = {9999, 20000};
        long[] lows = {-10002, -3334, 3334};
        for (int part = 0; part < 6; part++) {
            duePart(x, 1, part, lefts[part % 2], lows[part / 2], 10000, 6667);
        }
        int[] whats = {24, 25, -2, -4, Integer.MAX_VALUE, Integer.MIN_VALUE};
        for (int what : whats) {
            dueThrow("what " + what, IndexOutOfBoundsException.class, () -> x.paste(1, what));
        }
        int[] pads = {-1, 2, Integer.MAX_VALUE, Integer.MIN_VALUE};
        for (int k : pads) {
            dueThrow("pad " + k, IndexOutOfBoundsException.class, () -> x.paste(k, NONE));
            dueThrow("pad " + k, IndexOutOfBoundsException.class, () -> x.paste(k, 0));
        }
        // Pads of 59,999,999 by 120,000,000: 6,000 columns of 9,999 and 5,999 left over, and
        // 11,999 rows of 10,000 and 10,000 left over; as many parts as there can be.
        FootprintRules most = made("chip toe 10000000 0 0 side 10000000 0 0 part 10000",
                OUTER, LONGEST, INNER, 2, LEAD, LONGEST);
        most.make(0, 0);
        duePasteCount(most, 0, 6000 * 11999);
        duePart(most, 0, 6000 * 11999 - 1, -13000, 59985000, 9999, 10000);
    }

    private static void promise11() {
        said("A ball (1 .. 64) is LEFT OUT from now on, or not any more: whether it is.");
        FootprintRules x = made("ball", with(GRID, ROWS, 8, COLUMNS, 8));
        for (int ball = 1; ball <= 64; ball++) {
            dueTrue("left out", x.leave(ball));
        }
        due("all of them", x.make(0, 0), NONE);
        dueFalse("the first not any more", x.leave(1));
        due("one", x.make(0, 0), 1);
        due("its number", x.pad(0, 0), 1);
        dueFalse("the last not any more", x.leave(64));
        due("two", x.make(0, 0), 2);
        due("its number", x.pad(1, 0), 64);
        dueTrue("again", x.leave(1));
        due("one", x.make(0, 0), 1);
        due("its number", x.pad(0, 0), 64);

        said("(The footprint at hand stays.)");
        dueTrue("all of them", x.leave(64));
        due("its number", x.pad(0, 0), 64);
        due("its name", x.name(4), '1');
        dueFalse("one more", x.leave(2));
        dueThrow("no second one", IndexOutOfBoundsException.class, () -> x.pad(1, 0));

        said("IllegalArgumentException, when it is none.");
        int[] balls = {0, 65, -1, -64, Integer.MAX_VALUE, Integer.MIN_VALUE};
        for (int ball : balls) {
            dueThrow("ball " + ball, IllegalArgumentException.class, () -> x.leave(ball));
        }
        dueTrue("1 without a footprint", new FootprintRules().leave(1));
        dueTrue("64 without a footprint", new FootprintRules().leave(64));
    }

    private static void promise12() {
        said("A via's middle, x (axis 0) or y (1); k NONE: how many there are (axis is not looked "
                + "at). Throws likewise.");
        FootprintRules x = made("less via 10000", OUTER, 200000, INNER, 150000, LEAD, 1000,
                PITCH, 2000, COUNT, 4, THERMAL_LENGTH, 30000, THERMAL_WIDTH, 20000);
        dueThrow("none at hand", IllegalStateException.class, () -> x.via(NONE, 0));
        dueThrow("none at hand, nor via", IllegalStateException.class, () -> x.via(-2, 2));
        x.make(0, 0);
        int[] axes = {0, 1, 2, -1, Integer.MAX_VALUE, Integer.MIN_VALUE};
        for (int axis : axes) {
            due("how many", x.via(NONE, axis), 6);
        }
        due("x of the first", x.via(0, 0), -10000);
        due("y of the first", x.via(0, 1), -5000);
        due("x of the last", x.via(5, 0), 10000);
        due("y of the last", x.via(5, 1), 5000);
        int[] vias = {6, 7, -2, Integer.MAX_VALUE, Integer.MIN_VALUE};
        for (int k : vias) {
            dueThrow("via " + k, IndexOutOfBoundsException.class, () -> x.via(k, 0));
            dueThrow("via " + k, IndexOutOfBoundsException.class, () -> x.via(k, 1));
        }
        for (int i = 2; i < axes.length; i++) {
            int axis = axes[i];
            dueThrow("axis " + axis, IndexOutOfBoundsException.class, () -> x.via(5, axis));
        }
        FootprintRules none = made("less", LESS);
        none.make(0, 0);
        dueThrow("no via", IndexOutOfBoundsException.class, () -> none.via(0, 0));
        FootprintRules most = made("less via 10000", OUTER, LONGEST, INNER, LONGEST - 2,
                LEAD, 100, PITCH, 200, COUNT, 4, THERMAL_LENGTH, LONGEST - 4,
                THERMAL_WIDTH, LONGEST - 4);
        most.make(0, 0);
        due("the most", most.via(NONE, 0), 9999 * 9999);
        due("x of the last", most.via(9999 * 9999 - 1, 0), 49990000);
        due("y of the last", most.via(9999 * 9999 - 1, 1), 49990000);
        dueThrow("behind it", IndexOutOfBoundsException.class, () -> most.via(9999 * 9999, 0));
    }

    private static void promise13() {
        said("In how many places the hand-made one differs: pads at hand for whose number there is "
                + "no hand-made one, or one with another side, width or height, and hand-made ones "
                + "whose number none has.");
        FootprintRules x = made("chip", CHIP);
        x.make(0, 0);
        due("none", x.check(), 2);
        x.hand(1, -500, -50, 250, 100);
        due("one", x.check(), 1);
        x.hand(2, 250, -50, 250, 100);
        due("both", x.check(), 0);
        x.hand(3, 250, -50, 250, 100);
        due("one more", x.check(), 1);
        long[][] others = {{251, -50, 250, 100}, {249, -50, 250, 100}, {250, -49, 250, 100},
            {250, -51, 250, 100}, {250, -50, 251, 100}, {250, -50, 249, 100},
            {250, -50, 250, 101}, {250, -50, 250, 99}, {1, 1, 1, 1}};
        for (long[] other : others) {
            x.hand(2, other[0], other[1], other[2], other[3]);
            due("one differs", x.check(), 2);
        }
        FootprintRules all = made("chip", CHIP);
        all.make(0, 0);
        for (int k = 1; k <= 80; k++) {
            all.hand(k, 0, 0, 1, 1);
        }
        due("80 places", all.check(), 80);
        all.hand(1, -500, -50, 250, 100);
        due("79 places", all.check(), 79);
        FootprintRules less = made("less", with(LESS, OUTER, 9000, INNER, 8000, COUNT, 64,
                THERMAL_LENGTH, 20, THERMAL_WIDTH, 10));
        less.make(0, 0);
        due("65 places", less.check(), 65);
        less.hand(65, -10, -5, 20, 10);
        due("64 places", less.check(), 64);
        less.hand(66, -10, -5, 20, 10);
        due("65 places", less.check(), 65);
        FootprintRules hole = made("hole", with(HOLE, COUNT, 2));
        hole.make(0, 0);
        hole.hand(1, -550, -50, 100, 100);
        hole.hand(2, 450, -50, 100, 100);
        due("holes and being round are no places", hole.check(), 0);
        FootprintRules ball = made("ball", GRID);
        ball.leave(6);
        ball.make(0, 0);
        ball.hand(6, 150, -150, 100, 100);
        due("one LEFT OUT has no number", ball.check(), 6);

        said("IllegalStateException likewise.");
        dueThrow("new", IllegalStateException.class, () -> new FootprintRules().check());
        x.span(LEAD, 0, 0);
        x.make(0, 0);
        dueThrow("refused", IllegalStateException.class, () -> x.check());
    }

    private static void promise14() {
        said("A hand-made pad with a number (1 .. 80), left and low side (-100,000,000 .. "
                + "100,000,000), width and height (1 .. 100,000,000): whether there was none with "
                + "it.");
        FootprintRules x = new FootprintRules();
        dueTrue("1, the least", x.hand(1, -LONGEST, -LONGEST, 1, 1));
        dueTrue("80, the most", x.hand(80, LONGEST, LONGEST, LONGEST, LONGEST));
        dueFalse("there was one", x.hand(1, 0, 0, 1, 1));
        dueFalse("there was the same one", x.hand(1, 0, 0, 1, 1));
        dueFalse("there was one", x.hand(80, 0, 0, 1, 1));
        FootprintRules y = made("chip", CHIP);
        y.make(0, 0);
        y.hand(1, 5, 5, 5, 5);
        y.hand(1, -500, -50, 250, 100);
        due("the last one counts", y.check(), 1);
        y.hand(1, 5, 5, 5, 5);
        due("the last one counts", y.check(), 2);

        said("IndexOutOfBoundsException, when it is no such number");
        int[] numbers = {0, 81, -1, Integer.MAX_VALUE, Integer.MIN_VALUE};
        for (int k : numbers) {
            dueThrow("number " + k, IndexOutOfBoundsException.class, () -> x.hand(k, 0, 0, 1, 1));
        }

        said("IllegalArgumentException, when something else is not as said.");
        long[] sides = {-LONGEST - 1, LONGEST + 1, Long.MIN_VALUE, Long.MAX_VALUE, 1L << 32};
        for (long v : sides) {
            dueThrow("x " + v, IllegalArgumentException.class, () -> x.hand(2, v, 0, 1, 1));
            dueThrow("y " + v, IllegalArgumentException.class, () -> x.hand(2, 0, v, 1, 1));
        }
        long[] sizes = {0, -1, LONGEST + 1, Long.MIN_VALUE, Long.MAX_VALUE, (1L << 32) + 1};
        for (long v : sizes) {
            dueThrow("w " + v, IllegalArgumentException.class, () -> x.hand(2, 0, 0, v, 1));
            dueThrow("h " + v, IllegalArgumentException.class, () -> x.hand(2, 0, 0, 1, v));
        }
        dueTrue("there was none", x.hand(2, 0, 0, 1, 1));
    }

    private static void promise15() {
        said("The i-th character of the TEXT; NONE behind the last one. Throws likewise.");
        FootprintRules x = made("ball name Q", with(GRID, ROWS, 1, COLUMNS, 1));
        dueThrow("none at hand", IllegalStateException.class, () -> x.text(0));
        dueThrow("none at hand, below 0", IllegalStateException.class, () -> x.text(-1));
        x.make(0, 0);
        String text = "Q1X0L\n1 -50 -50 100 100 1 0\ncourt -50 -50 50 50\n";
        due("the first", x.text(0), 'Q');
        due("the last", x.text(text.length() - 1), '\n');
        due("behind it", x.text(text.length()), NONE);
        due("two behind it", x.text(text.length() + 1), NONE);
        due("far behind", x.text(Integer.MAX_VALUE), NONE);
        dueThrow("below 0", IndexOutOfBoundsException.class, () -> x.text(-1));
        dueThrow("far below", IndexOutOfBoundsException.class, () -> x.text(Integer.MIN_VALUE));
        dueUnits("all of it", text, x::text);
        // A shorter one after a longer one.
        FootprintRules y = made("ball name Q", GRID);
        y.make(0, 0);
        due("the longer one", y.text(text.length()) == NONE ? 1 : 0, 0);
        y.span(ROWS, 1, 1);
        y.span(COLUMNS, 1, 1);
        y.make(0, 0);
        dueUnits("the shorter one", text, y::text);
    }

    private static void promise16() {
        said("No words, spans, hand-made pads, balls LEFT OUT, and no footprint at hand. (Families "
                + "stay.)");
        FootprintRules x = full();
        x.clear();
        dueNothingAtHand(x);
        due("no words", x.family(), -1);
        due("no spans", x.make(0, 0), NONE);
        due("no spans", x.make(1, 0), NONE);
        dueThrow("no more families", IndexOutOfBoundsException.class, () -> x.make(2, 0));
        tellSpans(x, GRID);
        due("no balls LEFT OUT", x.make(0, 0), 6);
        due("no hand-made pads", x.check(), 6);
        dueUnits("OUTER is not told, the family stays", "Q6X0L", x::name);
        dueCourt(x, -250, -150, 250, 150);
        tellSpans(x, LESS);
        due("THERMAL spans are not told", x.make(1, 0), 8);
        due("the next family", tellFamily(x, "chip"), 2);
        dueTrue("the ball is not LEFT OUT", x.leave(2));
        dueTrue("there is none by hand", x.hand(1, 0, 0, 1, 1));
        x.clear();
        x.clear();
        dueNothingAtHand(x);
        FootprintRules y = new FootprintRules();
        y.clear();
        dueNothingAtHand(y);
        due("no words", y.family(), -1);
        due("the first family", tellFamily(y, "chip"), 0);
    }

    /** Each call that is refused, or that only asks, leaves all as it is with its twin. */
    private static void refusedCalls() {
        said("False, refused, when it is not 32 .. 126 or 10");
        int[] units = {31, 127, 9, 11, -1};
        for (int u : units) {
            dueUnchanged("unit " + u, x -> x.unit(u));
        }
        said("false, changing nothing, when low is above high");
        for (int what = 0; what < 12; what++) {
            int of = what;
            dueUnchanged("span " + what, x -> x.span(of, 1, 0));
            dueUnchanged("low of " + what, x -> x.span(of, -1, 2));
            dueUnchanged("high of " + what, x -> x.span(of, 2, LONGEST + 1));
        }
        dueUnchanged("span -1", x -> x.span(-1, 2, 2));
        dueUnchanged("span 12", x -> x.span(12, 2, 2));
        said("IllegalArgumentException, when density is not 0 .. 2");
        dueUnchanged("density -1", x -> x.make(1, -1));
        dueUnchanged("density 3", x -> x.make(1, 3));
        dueUnchanged("family -1", x -> x.make(-1, 0));
        dueUnchanged("family 2", x -> x.make(2, 0));
        said("IllegalArgumentException, when it is none");
        dueUnchanged("ball 0", x -> x.leave(0));
        dueUnchanged("ball 65", x -> x.leave(65));
        said("IllegalArgumentException, when something else is not as said");
        dueUnchanged("number 0", x -> x.hand(0, 0, 0, 1, 1));
        dueUnchanged("number 81", x -> x.hand(81, 0, 0, 1, 1));
        dueUnchanged("another left side", x -> x.hand(1, LONGEST + 1, 50, 100, 100));
        dueUnchanged("another low side", x -> x.hand(1, -250, -LONGEST - 1, 100, 100));
        dueUnchanged("another width", x -> x.hand(1, -250, 50, 0, 100));
        dueUnchanged("another height", x -> x.hand(3, 150, 50, 100, 0));
        said("when there is no such pad, or what");
        dueUnchanged("pad", x -> x.pad(6, 0));
        dueUnchanged("name", x -> x.name(-1));
        dueUnchanged("court", x -> x.court(4));
        dueUnchanged("mask", x -> x.mask(0, 4));
        dueUnchanged("paste", x -> x.paste(0, 4));
        dueUnchanged("via", x -> x.via(0, 0));
        dueUnchanged("text", x -> x.text(-1));
        said("Nothing is promised beyond the answers and state changes described above");
        dueUnchanged("pad", x -> x.pad(1, 1));
        dueUnchanged("name", x -> x.name(0));
        dueUnchanged("court", x -> x.court(0));
        dueUnchanged("mask", x -> x.mask(1, 1));
        dueUnchanged("paste of another pad", x -> x.paste(1, 0));
        dueUnchanged("via", x -> x.via(NONE, 0));
        dueUnchanged("check", x -> x.check());
        dueUnchanged("text", x -> x.text(0));
        dueUnchanged("text behind the last one", x -> x.text(9999));
    }

    // What the methods above use.

    /** Words, families, spans, balls, hand-made pads and a footprint. */
    private static FootprintRules full() {
        FootprintRules x = new FootprintRules();
        due("family 0", tellFamily(x, "ball mask 3 paste 2 name Q"), 0);
        due("family 1", tellFamily(x, "less via 10000"), 1);
        tellSpans(x, new long[] {OUTER, 90000, INNER, 60000, LEAD, 100, PITCH, 200, COUNT, 8,
            ROWS, 2, COLUMNS, 3, BALL, 100, THERMAL_LENGTH, 20000, THERMAL_WIDTH, 30000,
            BODY_LENGTH, 70000, BODY_WIDTH, 80000});
        x.leave(2);
        x.hand(1, -250, 50, 100, 100);
        x.hand(70, 0, 0, 1, 1);
        tell(x, "chip mask 5");
        due("make", x.make(0, 1), 5);
        return x;
    }

    private static void dueUnchanged(String what, Call call) {
        FootprintRules x = full();
        try {
            call.on(x);
        } catch (IllegalArgumentException | IndexOutOfBoundsException e) {
            // Which one it is, the promise's own checks tell.
        }
        dueSame("after " + what, seen(x), seen(full()));
    }

    /** All that can be seen of a full one, in fewer calls than an object has. */
    private static String seen(FootprintRules x) {
        StringBuilder s = new StringBuilder();
        for (int i = 0; i < 200 && x.text(i) != NONE; i++) {
            s.append((char) x.text(i));
        }
        s.append(x.mask(0, 0)).append(' ').append(x.paste(0, 0)).append(' ').append(x.check());
        s.append(' ').append(x.family()).append(' ').append(x.make(2, 0));
        s.append(' ').append(x.make(1, 0)).append(' ').append(x.via(NONE, 0));
        for (int what = 0; what < 5; what++) {
            s.append(' ').append(x.pad(0, what)).append(' ').append(x.pad(8, what));
        }
        for (int side = 0; side < 4; side++) {
            s.append(' ').append(x.court(side));
        }
        s.append(' ').append(x.make(0, 0)).append(' ').append(x.pad(1, 0)).append(x.leave(1));
        s.append(x.leave(2)).append(x.leave(64)).append(x.hand(1, 0, 0, 1, 1));
        return s.append(x.hand(2, 0, 0, 1, 1)).append(x.hand(80, 0, 0, 1, 1)).toString();
    }
}
