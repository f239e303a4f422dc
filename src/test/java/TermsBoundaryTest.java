import java.util.ArrayList;
import java.util.List;

/** The boundary cases of the document's "Terms", sentence by sentence. */
public final class TermsBoundaryTest extends Checks {
    public static void main(String[] args) {
        calls();
        words();
        kinds();
        keysInAnyOrder();
        eachKeyCounts();
        numbers();
        valuesOfDensities();
        leastValues();
        letters();
        notTold();
        ends();
        upAndDown();
        rows();
        roundPads();
        thermalPad();
        toldSpans();
        exactSpans();
        evenSpans();
        counts();
        innerAndOuter();
        belowPitch();
        fittingRows();
        thermalSizes();
        holesBelowOuter();
        aboveZero();
        courtyard();
        masks();
        pasteLess();
        pasteColumns();
        pasteLeftOver();
        pasteOfNothing();
        vias();
        names();
        texts();
        end();
    }

    // What it is.

    private static void calls() {
        said("An object is used for at most 512 calls after it has been made");
        FootprintRules x = new FootprintRules();
        tell(x, "chip");
        for (int i = 4; i < 511; i++) {
            dueTrue("unit " + i, x.unit(' '));
        }
        due("family, the 512th call", x.family(), 0);
    }

    // Terms: families.

    private static void words() {
        said("A FAMILY is read from WORDS (characters 33 .. 126, with spaces or line feeds "
                + "between)");
        dueFamily(" \n chip\n\n  mask \n 5 \n ", 0);
        dueFamily("chip\nmask\n5", 0);
        dueFamily("chip mask5", -2);
        dueFamily("chipmask 5", -1);
        dueFamily("!chip", -1);
        dueFamily("chip~", -1);
        dueFamily("chip !", -2);
        dueFamily("chip mask 5~", -3);
        dueFamily("chip mask 5 ~", -4);
    }

    private static void kinds() {
        said("its KIND: chip, wing, less, ball, hole");
        for (String kind : KINDS) {
            dueFamily(kind, 0);
            dueFamily(kind.substring(0, 3), -1);
            dueFamily(kind + "s", -1);
            dueFamily(kind.toUpperCase(), -1);
            for (int i = 0; i < kind.length(); i++) {
                dueFamily(withOtherUnit(kind, i), -1);
            }
            dueFamily(kind + " " + kind, -2);
            dueFamily("mask 5 " + kind, -1);
        }
    }

    private static void keysInAnyOrder() {
        said("then, in any order, each once at most, KEYS with values");
        List<String> told = new ArrayList<>();
        for (String key : NUMBER_KEYS) {
            told.add(key + values(key, "10000"));
        }
        told.add("name AB");
        String upwards = "less";
        String downwards = "less";
        for (int i = 0; i < told.size(); i++) {
            upwards += " " + told.get(i);
            downwards += " " + told.get(told.size() - 1 - i);
        }
        dueFamily(upwards, 0);
        dueFamily(downwards, 0);
        for (String one : told) {
            int size = one.split(" ").length;
            dueFamily("less " + one, 0);
            dueFamily("less " + one + " " + one, -2 - size);
            dueFamily("less " + one + " " + one.split(" ")[0], -2 - size);
            String between = one.startsWith("gap") ? "mask 5" : "gap 5";
            dueFamily("less " + one + " " + between + " " + one, -4 - size);
        }
        for (String one : told) {
            for (int i = 0; i < one.indexOf(' '); i++) {
                dueFamily("less " + withOtherUnit(one, i), -2);
            }
        }
        dueFamily("less foot 1", -2);
        dueFamily("less TOE 1 2 3", -2);
        dueFamily("less to 1 2 3", -2);
        dueFamily("less toes 1 2 3", -2);
        dueFamily("less 5", -2);
    }

    private static String withOtherUnit(String word, int i) {
        return word.substring(0, i) + "q" + word.substring(i + 1);
    }

    private static void eachKeyCounts() {
        said("in any order");
        String[] told = {"toe 1 2 3", "heel 4 5 6", "side 7 8 9", "court 10 20 30", "round 2",
            "mask 11", "paste 13", "gap 17", "part 10000", "via 20000", "name AB"};
        for (int first = 0; first < told.length; first++) {
            String words = "less";
            for (int i = 0; i < told.length; i++) {
                words += " " + told[(first + i) % told.length];
            }
            FootprintRules x = made(words, OUTER, 200000, INNER, 150000, LEAD, 1000, PITCH, 2000,
                    COUNT, 4, THERMAL_LENGTH, 40000, THERMAL_WIDTH, 40000);
            due("make", x.make(0, 1), 5);
            // Z = 200,004, G = DOWN (149,990, 4) = 149,988, X = 1,016.
            duePad(x, 0, 1, -100002, -508, 25008, 1016, 0, 0);
            dueCourt(x, -100022, -100022, 100022, 100022);
            dueMask(x, 0, -100013, -519, 25030, 1038);
            // 25,008 - 26 in three of 8,316, with two gaps.
            duePasteCount(x, 0, 3);
            duePart(x, 0, 2, -83323, -495, 8316, 990);
            due("vias", x.via(NONE, 0), 4);
            due("the first one", x.via(0, 0), -10000);
            dueUnits("name", "AB5X200N", x::name);
        }
    }

    private static void numbers() {
        said("numbers of one to eight digits up to 10,000,000");
        for (String key : NUMBER_KEYS) {
            String words = "less " + key;
            dueFamily(words + values(key, "10000000"), 0);
            dueFamily(words + values(key, "00010000"), 0);
            dueFamily(words + values(key, "10000001"), -3);
            dueFamily(words + values(key, "10000002"), -3);
            dueFamily(words + values(key, "99999999"), -3);
            dueFamily(words + values(key, "000010000"), -3);
            dueFamily(words + values(key, "100000000"), -3);
            dueFamily(words + values(key, "10000/"), -3);
            dueFamily(words + values(key, "10000:"), -3);
            dueFamily(words + values(key, "/0000"), -3);
            dueFamily(words + values(key, "+10000"), -3);
            dueFamily(words + values(key, "-10000"), -3);
            dueFamily(words + values(key, "10000.0"), -3);
            dueFamily(words + values(key, "A"), -3);
        }
        dueFamily("less mask 0", 0);
        dueFamily("less mask 9", 0);
        dueFamily("less mask 00000000", 0);
        dueFamily("less mask 000000000", -3);
        // As many as would be 10,000 and 0 if they were cut down to an int.
        dueFamily("less mask 4294977296", -3);
        dueFamily("less mask 4294967296", -3);
    }

    private static void valuesOfDensities() {
        said("toe, heel, side, court (three values each, for the densities 0, 1, 2)");
        String[] keys = {"toe", "heel", "side", "court"};
        for (String key : keys) {
            dueFamily("chip " + key, -3);
            dueFamily("chip " + key + " 1", -4);
            dueFamily("chip " + key + " 1 2", -5);
            dueFamily("chip " + key + " 1 2 3", 0);
            dueFamily("chip " + key + " 1 2 3 4", -6);
            dueFamily("chip " + key + " 1 2 mask 5", -5);
            dueFamily("chip " + key + " 0 0 0", 0);
            dueFamily("chip " + key + " 10000000 10000000 10000001", -5);
            dueFamily("chip " + key + " 1 10000001 10000001", -4);
        }
        FootprintRules x = made("chip toe 1 20 300 heel 4 50 60 side 7 80 900 court 5 60 700",
                CHIP);
        long[] outers = {1002, 1040, 1600};
        long[] inners = {492, 400, 380};
        long[] leads = {114, 260, 1900};
        long[] courts = {5, 60, 700};
        for (int density = 0; density < 3; density++) {
            due("make", x.make(0, density), 2);
            long width = (outers[density] - inners[density]) / 2;
            duePad(x, 1, 2, inners[density] / 2, -leads[density] / 2, width, leads[density], 0, 0);
            due("court", x.court(2), outers[density] / 2 + courts[density]);
        }
    }

    private static void leastValues() {
        said("round (1 at least)");
        dueFamily("chip round 0", -3);
        dueFamily("chip round 00000000", -3);
        dueFamily("chip round 1", 0);
        dueFamily("chip round 2", 0);
        dueFamily("chip round 00000001", 0);

        // The numbers of the others lie from 0 on: it is part and via that this is said of.
        said("mask, paste, gap, part and via (0, or 10,000 at least; via even; one value each)");
        String[] small = {"mask", "paste", "gap"};
        for (String key : small) {
            dueFamily("less " + key + " 0", 0);
            dueFamily("less " + key + " 1", 0);
            dueFamily("less " + key + " 9999", 0);
            dueFamily("less " + key + " 10000", 0);
        }
        String[] large = {"part", "via"};
        for (String key : large) {
            dueFamily("less " + key + " 0", 0);
            dueFamily("less " + key + " 1", -3);
            dueFamily("less " + key + " 2", -3);
            dueFamily("less " + key + " 9998", -3);
            dueFamily("less " + key + " 9999", -3);
            dueFamily("less " + key + " 10000", 0);
            dueFamily("less " + key + " 10002", 0);
        }
        dueFamily("less part 10001", 0);
        dueFamily("less part 9999999", 0);
        dueFamily("less via 10001", -3);
        dueFamily("less via 9999998", 0);
        dueFamily("less via 9999999", -3);
        dueFamily("less via 10000000", 0);
        String[] single = {"round", "mask", "paste", "gap", "part", "via"};
        for (String key : single) {
            dueFamily("less " + key, -3);
            dueFamily("less " + key + " 10000", 0);
            dueFamily("less " + key + " 10000 10000", -4);
            dueFamily("less " + key + " name A", -3);
        }
    }

    private static void letters() {
        said("name with one to four letters A .. Z");
        dueFamily("chip name", -3);
        dueFamily("chip name A", 0);
        dueFamily("chip name Z", 0);
        dueFamily("chip name AZAZ", 0);
        dueFamily("chip name AZAZA", -3);
        dueFamily("chip name @", -3);
        dueFamily("chip name [", -3);
        dueFamily("chip name a", -3);
        dueFamily("chip name ABC@", -3);
        dueFamily("chip name [BCD", -3);
        dueFamily("chip name A1", -3);
        dueFamily("chip name A B", -4);
        FootprintRules x = made("chip name Z", CHIP);
        x.make(0, 0);
        dueUnits("one letter", "Z2X1L", x::name);
        FootprintRules y = made("chip name AZYB", CHIP);
        y.make(0, 0);
        dueUnits("four letters", "AZYB2X1L", y::name);
    }

    private static void notTold() {
        said("What is not told is 0, round 1, name the kind's letters as capitals.");
        String[] due = {"CHIP2X1L", "WING8X1L", "LESS8X2L", "BALL6X0L", "HOLE8X1L"};
        for (int i = 0; i < KINDS.length; i++) {
            FootprintRules x = made(KINDS[i], spansOf(KINDS[i]));
            x.make(0, 0);
            dueUnits(KINDS[i], due[i], x::name);
        }
        for (int density = 0; density < 3; density++) {
            FootprintRules x = made("chip", CHIP);
            x.make(0, density);
            duePad(x, 0, 1, -500, -50, 250, 100, 0, 0);
            dueCourt(x, -500, -50, 500, 50);
            dueMask(x, 0, -500, -50, 250, 100);
            due("paste and part are 0", x.paste(0, NONE), 1);
            duePart(x, 0, 0, -500, -50, 250, 100);
        }
        FootprintRules y = made("less", with(LESS, THERMAL_LENGTH, 900, THERMAL_WIDTH, 900));
        due("make", y.make(0, 0), 9);
        due("via is 0", y.via(NONE, 0), 0);
        FootprintRules z = made("chip part 10000", OUTER, 60000, INNER, 20000, LEAD, 100);
        z.make(0, 0);
        due("gap is 0", z.paste(0, NONE), 2);
        duePart(z, 0, 1, -20000, -50, 10000, 100);
    }

    // Terms: spans.

    private static void ends() {
        said("SPANS, each from a low to a high end (0 .. 100,000,000)");
        for (int what = 0; what < 12; what++) {
            int of = what;
            FootprintRules x = new FootprintRules();
            dueTrue("both least", x.span(what, 0, 0));
            dueTrue("both most", x.span(what, LONGEST, LONGEST));
            dueTrue("the widest", x.span(what, 0, LONGEST));
            dueThrow("low", IllegalArgumentException.class, () -> x.span(of, -1, 0));
            dueThrow("high", IllegalArgumentException.class, () -> x.span(of, 0, LONGEST + 1));
        }
        dueMake(2, "chip", OUTER, LONGEST, INNER, LONGEST - 2, LEAD, LONGEST);
        dueMake(NONE, "chip", OUTER, LONGEST, INNER, LONGEST, LEAD, LONGEST);
    }

    private static void upAndDown() {
        said("UP (v, m) is the least multiple of m not below v, DOWN (v, m) the greatest not "
                + "above");
        long[][] outers = {{991, 1000}, {1000, 1000}, {1001, 1010}, {1009, 1010}, {1010, 1010}};
        for (long[] v : outers) {
            FootprintRules x = made("chip round 5", with(CHIP, OUTER, v[0]));
            x.make(0, 0);
            due("Z of " + v[0], -2 * x.pad(0, 1), v[1]);
        }
        long[][] inners = {{499, 490}, {500, 500}, {501, 500}, {509, 500}, {510, 510}};
        for (long[] v : inners) {
            FootprintRules x = made("chip round 5", with(CHIP, INNER, v[0]));
            x.make(0, 0);
            due("G of " + v[0], 2 * x.pad(1, 1), v[1]);
        }
        long[][] leads = {{1, 10}, {9, 10}, {10, 10}, {11, 20}};
        for (long[] v : leads) {
            FootprintRules x = made("chip round 5", with(CHIP, LEAD, v[0]));
            x.make(0, 0);
            due("X of " + v[0], x.pad(0, 4), v[1]);
        }
        said("With t, h, s the family's toe, heel, side of the density, n its round");
        FootprintRules x = made("chip toe 0 5 6 heel 0 5 6 side 0 5 6 round 5", CHIP);
        x.make(0, 1);
        duePad(x, 1, 2, 245, -55, 260, 110, 0, 0);
        x.make(0, 2);
        duePad(x, 1, 2, 240, -60, 270, 120, 0, 0);
        said("Z is UP (OUTER's high end + 2 t, 2 n), G is DOWN (INNER's low end - 2 h, 2 n), X is "
                + "UP (LEAD's high end + 2 s, 2 n)");
        FootprintRules y = made("chip", CHIP);
        y.span(OUTER, 900, 1001);
        y.span(INNER, 401, 999);
        y.span(LEAD, 3, 99);
        y.make(0, 0);
        duePad(y, 0, 1, -501, -50, 301, 100, 0, 0);
        duePad(y, 1, 2, 200, -50, 301, 100, 0, 0);
    }

    // Terms: pads.

    private static void rows() {
        said("A ROW of m pads has its middles PITCH apart, the middle of the row at 0.");
        FootprintRules one = made("wing", with(WING, COUNT, 2));
        one.make(0, 0);
        duePad(one, 0, 1, -500, -50, 250, 100, 0, 0);
        duePad(one, 1, 2, 250, -50, 250, 100, 0, 0);
        FootprintRules two = made("wing", with(WING, COUNT, 4, PITCH, 202));
        two.make(0, 0);
        duePad(two, 0, 1, -500, 51, 250, 100, 0, 0);
        duePad(two, 1, 2, -500, -151, 250, 100, 0, 0);
        duePad(two, 2, 3, 250, -151, 250, 100, 0, 0);
        duePad(two, 3, 4, 250, 51, 250, 100, 0, 0);
        FootprintRules most = made("wing", with(WING, COUNT, 64));
        due("make", most.make(0, 0), 64);
        duePad(most, 0, 1, -500, 3050, 250, 100, 0, 0);
        duePad(most, 31, 32, -500, -3150, 250, 100, 0, 0);
        duePad(most, 32, 33, 250, -3150, 250, 100, 0, 0);
        duePad(most, 63, 64, 250, 3050, 250, 100, 0, 0);
        FootprintRules less = made("less", with(LESS, COUNT, 4));
        less.make(0, 0);
        duePad(less, 0, 1, -1000, -50, 500, 100, 0, 0);
        duePad(less, 1, 2, -50, -1000, 100, 500, 0, 0);
        duePad(less, 2, 3, 500, -50, 500, 100, 0, 0);
        duePad(less, 3, 4, -50, 500, 100, 500, 0, 0);
        FootprintRules pairs = made("less", LESS);
        pairs.make(0, 0);
        duePad(pairs, 0, 1, -1000, 50, 500, 100, 0, 0);
        duePad(pairs, 1, 2, -1000, -150, 500, 100, 0, 0);
        duePad(pairs, 2, 3, -150, -1000, 100, 500, 0, 0);
        duePad(pairs, 3, 4, 50, -1000, 100, 500, 0, 0);
        duePad(pairs, 4, 5, 500, -150, 500, 100, 0, 0);
        duePad(pairs, 5, 6, 500, 50, 500, 100, 0, 0);
        duePad(pairs, 6, 7, 50, 500, 100, 500, 0, 0);
        duePad(pairs, 7, 8, -150, 500, 100, 500, 0, 0);
        FootprintRules grid = made("ball", with(GRID, ROWS, 1, COLUMNS, 1));
        grid.make(0, 0);
        duePad(grid, 0, 1, -50, -50, 100, 100, 1, 0);
        FootprintRules full = made("ball", with(GRID, ROWS, 8, COLUMNS, 8));
        due("make", full.make(0, 0), 64);
        duePad(full, 0, 1, -750, 650, 100, 100, 1, 0);
        duePad(full, 7, 8, 650, 650, 100, 100, 1, 0);
        duePad(full, 8, 9, -750, 450, 100, 100, 1, 0);
        duePad(full, 63, 64, 650, -750, 100, 100, 1, 0);
    }

    private static void roundPads() {
        said("round ones of D, UP (BALL's high end + 2 s, 2 n), wide");
        long[][] balls = {{90, 90}, {91, 100}, {100, 100}, {101, 110}};
        for (long[] v : balls) {
            FootprintRules x = made("ball round 5", with(GRID, ROWS, 1, COLUMNS, 1));
            x.span(BALL, 11, v[0]);
            x.make(0, 0);
            duePad(x, 0, 1, -v[1] / 2, -v[1] / 2, v[1], v[1], 1, 0);
        }
        FootprintRules more = made("ball side 0 5 6 round 5", with(GRID, ROWS, 1, COLUMNS, 1));
        more.make(0, 1);
        duePad(more, 0, 1, -55, -55, 110, 110, 1, 0);
        more.make(0, 2);
        duePad(more, 0, 1, -60, -60, 120, 120, 1, 0);

        said("the middles OUTER apart, d + 2 UP (s, n) wide, with a hole of d, UP (LEAD's high end "
                + "+ 2 h, 2 n)");
        for (long[] v : balls) {
            FootprintRules x = made("hole round 5", with(HOLE, COUNT, 2));
            x.span(LEAD, 11, v[0]);
            x.make(0, 0);
            duePad(x, 1, 2, 500 - v[1] / 2, -v[1] / 2, v[1], v[1], 1, v[1]);
        }
        FootprintRules wide = made("hole heel 0 5 6 side 1 5 6 round 5", with(HOLE, COUNT, 2));
        wide.make(0, 0);
        duePad(wide, 0, 1, -555, -55, 110, 110, 1, 100);
        wide.make(0, 1);
        duePad(wide, 0, 1, -560, -60, 120, 120, 1, 110);
        wide.make(0, 2);
        duePad(wide, 0, 1, -570, -70, 140, 140, 1, 120);
    }

    private static void thermalPad() {
        said("if both THERMAL spans are told, one more in the middle, of their high ends, each UP "
                + "by 2 n");
        dueMake(8, "less", LESS);
        dueMake(8, "less", with(LESS, THERMAL_LENGTH, 100));
        dueMake(8, "less", with(LESS, THERMAL_WIDTH, 100));
        dueMake(8, "less", with(LESS, THERMAL_LENGTH, 0));
        dueMake(8, "less", with(LESS, THERMAL_WIDTH, LONGEST));
        dueMake(9, "less", with(LESS, THERMAL_LENGTH, 100, THERMAL_WIDTH, 100));
        dueMake(65, "less", with(LESS, COUNT, 64, PITCH, 60, LEAD, 10,
                THERMAL_LENGTH, 100, THERMAL_WIDTH, 100));
        String[] others = {"chip", "wing", "ball", "hole"};
        int[] pads = {2, 8, 6, 8};
        for (int i = 0; i < others.length; i++) {
            dueMake(pads[i], others[i], with(spansOf(others[i]), THERMAL_LENGTH, 100,
                    THERMAL_WIDTH, 100));
        }
        FootprintRules x = made("less round 5", LESS);
        x.span(THERMAL_LENGTH, 0, 200);
        x.span(THERMAL_WIDTH, 0, 201);
        x.make(0, 0);
        duePad(x, 8, 9, -100, -105, 200, 210, 0, 0);
        x.span(THERMAL_LENGTH, 301, 309);
        x.span(THERMAL_WIDTH, 300, 300);
        x.make(0, 0);
        duePad(x, 8, 9, -155, -150, 310, 300, 0, 0);

        said("numbers from 1 on, but those that are LEFT OUT are not made");
        FootprintRules y = made("ball", GRID);
        y.leave(1);
        y.leave(5);
        due("two less", y.make(0, 0), 4);
        duePad(y, 0, 2, -50, 50, 100, 100, 1, 0);
        duePad(y, 2, 4, -250, -150, 100, 100, 1, 0);
        duePad(y, 3, 6, 150, -150, 100, 100, 1, 0);
        y.leave(6);
        y.leave(7);
        due("the last one, and one behind it", y.make(0, 0), 3);
        due("the last one", y.pad(2, 0), 4);
        FootprintRules w = made("wing", WING);
        w.leave(1);
        due("of ball alone", w.make(0, 0), 8);
    }

    // Terms: what must be as said.

    private static void toldSpans() {
        said("Spans must be told: chip OUTER, INNER, LEAD; wing and less also PITCH, COUNT; ball "
                + "PITCH, ROWS, COLUMNS, BALL; hole OUTER, LEAD, PITCH, COUNT.");
        for (String kind : KINDS) {
            dueAllTold(kind);
            // With these, what is not told could be taken for 0 and still make pads.
            dueAllTold(kind + " toe 1000 1000 1000 heel 5 5 5 side 10 10 10");
        }
    }

    private static void dueAllTold(String words) {
        String kind = words.substring(0, 4);
        long[] spans = spansOf(kind);
        dueMade(words, spans);
        for (int i = 0; i < spans.length; i += 2) {
            FootprintRules x = new FootprintRules();
            tellFamily(x, words);
            for (int j = 0; j < spans.length; j += 2) {
                if (j != i) {
                    x.span((int) spans[j], spans[j + 1], spans[j + 1]);
                }
            }
            due(words + " without " + spans[i], x.make(0, 0), NONE);
            x.span((int) spans[i], spans[i + 1], spans[i + 1]);
            dueTrue(words + " with " + spans[i], x.make(0, 0) > 0);
        }
    }

    private static void exactSpans() {
        said("EXACT are those with both ends the same.");
        FootprintRules x = made("wing", WING);
        x.span(PITCH, 199, 200);
        due("ends 1 apart", x.make(0, 0), NONE);
        x.span(PITCH, 200, 201);
        due("ends 1 apart", x.make(0, 0), NONE);
        x.span(PITCH, 200, 200);
        due("both ends the same", x.make(0, 0), 8);

        said("PITCH, COUNT, ROWS, COLUMNS, hole's OUTER must be EXACT");
        int[][] exact = {{}, {PITCH, COUNT}, {PITCH, COUNT}, {PITCH, ROWS, COLUMNS},
            {OUTER, PITCH, COUNT}};
        for (int i = 0; i < KINDS.length; i++) {
            long[] spans = spansOf(KINDS[i]);
            for (int what = 0; what < 12; what++) {
                FootprintRules y = made(KINDS[i], spans);
                long high = valueOf(spans, what, 90);
                y.span(what, high - 1, high);
                boolean mustBe = false;
                for (int one : exact[i]) {
                    mustBe |= one == what;
                }
                dueTrue(KINDS[i] + " with two ends of " + what, mustBe == (y.make(0, 0) == NONE));
            }
        }
    }

    private static void evenSpans() {
        said("PITCH and hole's OUTER even, above 0");
        String[] pitched = {"wing", "less", "ball", "hole"};
        for (String kind : pitched) {
            long[] spans = spansOf(kind);
            dueRefused(kind, with(spans, PITCH, 199));
            dueMade(kind, with(spans, PITCH, 200));
            dueRefused(kind, with(spans, PITCH, 201));
            dueMade(kind, with(spans, PITCH, 202));
            dueRefused(kind, with(spans, PITCH, 0));
        }
        dueRefused("hole", with(HOLE, OUTER, 999));
        dueMade("hole", with(HOLE, OUTER, 1000));
        dueRefused("hole", with(HOLE, OUTER, 1001));
        dueRefused("hole", with(HOLE, OUTER, 0));
        dueMade("chip", with(CHIP, OUTER, 1001));
        dueMade("wing", with(WING, OUTER, 1001));
        dueMade("less", with(LESS, OUTER, 2001));
        dueMade("ball", with(GRID, OUTER, 1001));
        dueMade("ball", with(GRID, OUTER, 0));
        dueMade("chip", with(CHIP, PITCH, 201));
        dueMade("chip", with(CHIP, PITCH, 0));
    }

    private static void counts() {
        said("COUNT of wing and hole even, 2 .. 64, of less 4 .. 64 by four");
        long[] counts = {0, 1, 2, 3, 4, 5, 6, 7, 8, 60, 61, 62, 63, 64, 65, 66, 68, 128, LONGEST};
        for (long count : counts) {
            boolean two = count >= 2 && count <= 64 && count % 2 == 0;
            boolean four = count >= 4 && count <= 64 && count % 4 == 0;
            dueMake(two ? count : NONE, "wing", with(WING, COUNT, count));
            dueMake(two ? count : NONE, "hole", with(HOLE, COUNT, count));
            dueMake(four ? count : NONE, "less", with(LESS, OUTER, 9000, INNER, 8000,
                    COUNT, count));
            dueMake(2, "chip", with(CHIP, COUNT, count));
            dueMake(6, "ball", with(GRID, COUNT, count));
        }

        said("ROWS and COLUMNS 1 .. 8");
        long[] lines = {0, 1, 2, 7, 8, 9, 64, LONGEST};
        for (long line : lines) {
            boolean fits = line >= 1 && line <= 8;
            dueMake(fits ? 3 * line : NONE, "ball", with(GRID, ROWS, line));
            dueMake(fits ? 2 * line : NONE, "ball", with(GRID, COLUMNS, line));
            dueMade("wing", with(WING, ROWS, line, COLUMNS, line));
        }
    }

    private static void innerAndOuter() {
        said("G above 0, Z above G");
        String[] kinds = {"chip", "wing"};
        for (String kind : kinds) {
            long[] spans = spansOf(kind);
            dueRefused(kind, with(spans, INNER, 0));
            dueRefused(kind, with(spans, INNER, 1));
            dueMade(kind, with(spans, INNER, 2));
            dueRefused(kind + " heel 250 0 0", spans);
            dueRefused(kind + " heel 251 0 0", spans);
            dueMade(kind + " heel 249 0 0", spans);
            dueRefused(kind + " heel 10000000 0 0", spans);
            dueRefused(kind + " round 251", spans);
            dueMade(kind + " round 250", with(spans, PITCH, 502));
            dueRefused(kind, with(spans, INNER, 1000));
            dueRefused(kind, with(spans, INNER, 1001));
            dueRefused(kind, with(spans, INNER, 1002));
            dueMade(kind, with(spans, INNER, 999));
            dueMade(kind, with(spans, INNER, 1000, OUTER, 1001));
            dueMade(kind + " toe 1 0 0", with(spans, INNER, 1000));
            dueMade(kind + " heel 1 0 0", with(spans, INNER, 1000));
        }
        dueRefused("less", with(LESS, INNER, 0));
        dueRefused("less", with(LESS, INNER, 2000));
        dueMade("less", with(LESS, INNER, 1999));
        // INNER does not bind where no pads go by it.
        dueMade("hole", with(HOLE, INNER, 0));
        dueMade("hole", with(HOLE, INNER, 5000));
        dueMade("ball", with(GRID, INNER, 0, OUTER, 0));
        FootprintRules x = made("chip", CHIP);
        x.span(INNER, 1, 500);
        due("the low end of INNER counts", x.make(0, 0), NONE);
        x.span(INNER, 2, 5000);
        due("the low end of INNER counts", x.make(0, 0), 2);
    }

    private static void belowPitch() {
        said("where there is a PITCH, X (or the pads' width) below it");
        String[] kinds = {"wing", "less", "hole"};
        for (String kind : kinds) {
            long[] spans = spansOf(kind);
            dueMade(kind, with(spans, LEAD, 198));
            dueRefused(kind, with(spans, LEAD, 199));
            dueRefused(kind, with(spans, LEAD, 200));
            dueRefused(kind, with(spans, LEAD, 202));
            dueMade(kind + " side 49 0 0", spans);
            dueRefused(kind + " side 50 0 0", spans);
        }
        dueRefused("wing", with(WING, COUNT, 2, LEAD, 200));
        dueRefused("less", with(LESS, COUNT, 4, LEAD, 200));
        dueRefused("hole", with(HOLE, COUNT, 2, LEAD, 200));
        dueMade("ball", with(GRID, BALL, 198));
        dueRefused("ball", with(GRID, BALL, 199));
        dueRefused("ball", with(GRID, BALL, 200));
        dueRefused("ball", with(GRID, BALL, 202));
        dueRefused("ball", with(GRID, BALL, 5000));
        dueRefused("ball", with(GRID, ROWS, 1, COLUMNS, 1, BALL, 200));
        dueMade("ball side 49 0 0", GRID);
        dueRefused("ball side 50 0 0", GRID);
        dueMade("hole heel 49 0 0", HOLE);
        dueRefused("hole heel 50 0 0", HOLE);
        dueRefused("hole heel 25 0 0 side 25 0 0", HOLE);
        dueMade("hole heel 24 0 0 side 25 0 0", HOLE);
        // UP makes X of 101 be 200.
        dueRefused("wing round 100", with(WING, INNER, 400));
        dueMade("wing round 50", WING);
        dueMade("chip", with(CHIP, LEAD, 5000, PITCH, 200));
    }

    private static void fittingRows() {
        said("of less, (COUNT / 4 - 1) PITCHES and X not above G");
        dueMake(8, "less", with(LESS, INNER, 300));
        dueMake(NONE, "less", with(LESS, INNER, 299));
        dueMake(NONE, "less", with(LESS, INNER, 298));
        dueMake(8, "less", with(LESS, INNER, 301));
        dueMake(4, "less", with(LESS, INNER, 100, COUNT, 4));
        dueMake(NONE, "less", with(LESS, INNER, 98, COUNT, 4));
        dueMake(64, "less", with(LESS, OUTER, 3200, INNER, 3100, COUNT, 64));
        dueMake(NONE, "less", with(LESS, OUTER, 3200, INNER, 3098, COUNT, 64));
        dueMake(NONE, "less", with(LESS, OUTER, LONGEST, INNER, LONGEST - 2, PITCH, LONGEST));
        dueMake(8, "wing", with(WING, INNER, 2));
    }

    private static void thermalSizes() {
        said("THERMAL sizes below G and above 0");
        long[][] sizes = {{998, 1}, {999, 0}, {1000, 0}, {1002, 0}, {LONGEST, 0}, {0, 0}, {1, 1},
            {2, 1}};
        for (long[] size : sizes) {
            long due = size[1] == 1 ? 9 : NONE;
            dueMake(due, "less", with(LESS, THERMAL_LENGTH, size[0], THERMAL_WIDTH, 500));
            dueMake(due, "less", with(LESS, THERMAL_LENGTH, 500, THERMAL_WIDTH, size[0]));
        }
        dueMake(9, "less round 100", with(LESS, PITCH, 400, THERMAL_LENGTH, 800,
                THERMAL_WIDTH, 1));
        dueMake(NONE, "less round 100", with(LESS, PITCH, 400, THERMAL_LENGTH, 801,
                THERMAL_WIDTH, 1));
        dueMake(9, "less heel 1 0 0", with(LESS, THERMAL_LENGTH, 996, THERMAL_WIDTH, 996));
        dueMake(NONE, "less heel 1 0 0", with(LESS, THERMAL_LENGTH, 998, THERMAL_WIDTH, 996));
        // Where no pad is made of them they do not bind.
        dueMake(8, "wing", with(WING, THERMAL_LENGTH, 0, THERMAL_WIDTH, LONGEST));
        FootprintRules x = made("less", LESS);
        x.span(THERMAL_LENGTH, 0, 998);
        x.span(THERMAL_WIDTH, 0, 2);
        due("a low end of 0", x.make(0, 0), 9);
    }

    private static void holesBelowOuter() {
        said("hole's pads less wide than OUTER");
        dueMade("hole", with(HOLE, OUTER, 100, LEAD, 98));
        dueRefused("hole", with(HOLE, OUTER, 100, LEAD, 99));
        dueRefused("hole", with(HOLE, OUTER, 100, LEAD, 100));
        dueRefused("hole", with(HOLE, OUTER, 100, LEAD, 102));
        dueMade("hole side 9 0 0", with(HOLE, OUTER, 100, LEAD, 80));
        dueRefused("hole side 10 0 0", with(HOLE, OUTER, 100, LEAD, 80));
        dueRefused("hole side 6 0 0 round 5", with(HOLE, OUTER, 100, LEAD, 80));
        dueMade("hole side 5 0 0 round 5", with(HOLE, OUTER, 100, LEAD, 80));
        FootprintRules x = made("hole", with(HOLE, OUTER, 100, LEAD, 98, COUNT, 2));
        x.make(0, 0);
        duePad(x, 0, 1, -99, -49, 98, 98, 1, 98);
        duePad(x, 1, 2, 1, -49, 98, 98, 1, 98);
    }

    private static void aboveZero() {
        said("X, D, d above 0; some pad");
        String[] kinds = {"chip", "wing", "less"};
        for (String kind : kinds) {
            dueRefused(kind, with(spansOf(kind), LEAD, 0));
            dueMade(kind, with(spansOf(kind), LEAD, 1));
            dueMade(kind + " side 1 0 0", with(spansOf(kind), LEAD, 0));
        }
        dueRefused("ball", with(GRID, BALL, 0));
        dueMade("ball", with(GRID, BALL, 1));
        dueMade("ball side 1 0 0", with(GRID, BALL, 0));
        dueRefused("hole", with(HOLE, LEAD, 0));
        dueRefused("hole side 5 0 0", with(HOLE, LEAD, 0));
        dueMade("hole heel 1 0 0", with(HOLE, LEAD, 0));
        dueMade("hole", with(HOLE, LEAD, 1));
        FootprintRules x = made("ball", with(GRID, ROWS, 1, COLUMNS, 2));
        x.leave(1);
        due("one pad", x.make(0, 0), 1);
        x.leave(2);
        due("no pad", x.make(0, 0), NONE);
        x.leave(1);
        due("one pad", x.make(0, 0), 1);
    }

    // Terms: what is laid around and on pads.

    private static void courtyard() {
        said("COURTYARD: the least rectangle around all pads, and around the middle with the "
                + "BODY's high ends, each UP by 2 n, when both are told");
        dueCourtOf("chip", CHIP, -500, -50, 500, 50);
        dueCourtOf("chip", with(CHIP, BODY_LENGTH, 5000), -500, -50, 500, 50);
        dueCourtOf("chip", with(CHIP, BODY_WIDTH, 5000), -500, -50, 500, 50);
        dueCourtOf("chip", with(CHIP, BODY_LENGTH, 1000, BODY_WIDTH, 100), -500, -50, 500, 50);
        dueCourtOf("chip", with(CHIP, BODY_LENGTH, 1001, BODY_WIDTH, 100), -501, -50, 501, 50);
        dueCourtOf("chip", with(CHIP, BODY_LENGTH, 1000, BODY_WIDTH, 101), -500, -51, 500, 51);
        dueCourtOf("chip", with(CHIP, BODY_LENGTH, 0, BODY_WIDTH, 0), -500, -50, 500, 50);
        dueCourtOf("chip", with(CHIP, BODY_LENGTH, LONGEST, BODY_WIDTH, LONGEST - 2),
                -50000000, -49999999, 50000000, 49999999);
        dueCourtOf("chip round 5", with(CHIP, BODY_LENGTH, 1011, BODY_WIDTH, 191),
                -510, -100, 510, 100);
        FootprintRules x = made("chip", CHIP);
        x.span(BODY_LENGTH, 4000, 6000);
        x.span(BODY_WIDTH, 7000, 8000);
        x.make(0, 0);
        dueCourt(x, -3000, -4000, 3000, 4000);

        dueCourtOf("less", LESS, -1000, -1000, 1000, 1000);
        dueCourtOf("wing", WING, -500, -350, 500, 350);
        // Neither the first pad nor the last one lies farthest to the left, or to the right.
        FootprintRules grid = made("ball", GRID);
        grid.leave(1);
        grid.leave(6);
        grid.make(0, 0);
        dueCourt(grid, -250, -150, 250, 150);

        said("by the family's court of the density farther on each side");
        dueCourtOf("chip court 0 1 1", CHIP, -500, -50, 500, 50);
        dueCourtOf("chip court 1 0 0", CHIP, -501, -51, 501, 51);
        dueCourtOf("chip court 10000000 0 0", CHIP, -10000500, -10000050, 10000500, 10000050);

        said("each side then outwards to a multiple of n");
        dueCourtOf("chip court 0 0 0 round 5", CHIP, -500, -50, 500, 50);
        dueCourtOf("chip court 1 0 0 round 5", CHIP, -505, -55, 505, 55);
        dueCourtOf("chip court 4 0 0 round 5", CHIP, -505, -55, 505, 55);
        dueCourtOf("chip court 5 0 0 round 5", CHIP, -505, -55, 505, 55);
        dueCourtOf("chip court 6 0 0 round 5", CHIP, -510, -60, 510, 60);
        // A pad from -156 to -44, and from 44 to 156: sides on the far side of 0 go outwards, too.
        FootprintRules y = made("ball round 7", GRID);
        y.span(COLUMNS, 2, 2);
        y.leave(2);
        y.leave(3);
        y.leave(4);
        y.make(0, 0);
        dueCourt(y, -161, 42, -42, 161);
        FootprintRules z = made("ball round 4", with(GRID, ROWS, 1, COLUMNS, 2));
        z.leave(2);
        z.make(0, 0);
        dueCourt(z, -152, -52, -48, 52);
    }

    private static void masks() {
        said("MASK of a pad: the family's mask more on each side.");
        FootprintRules none = made("chip mask 0", CHIP);
        none.make(0, 0);
        dueMask(none, 0, -500, -50, 250, 100);
        FootprintRules one = made("chip mask 1", CHIP);
        one.make(0, 0);
        dueMask(one, 1, 249, -51, 252, 102);
        FootprintRules most = made("chip mask 10000000", CHIP);
        most.make(0, 0);
        dueMask(most, 0, -10000500, -10000050, 20000250, 20000100);
        FootprintRules hole = made("hole mask 1", HOLE);
        hole.make(0, 0);
        dueMask(hole, 0, -551, 249, 102, 102);
    }

    private static void pasteLess() {
        said("PASTE of a pad, none for one with a hole");
        FootprintRules hole = made("hole", HOLE);
        hole.make(0, 0);
        duePasteCount(hole, 0, 0);
        FootprintRules ball = made("ball", GRID);
        ball.make(0, 0);
        duePasteCount(ball, 0, 1);

        said("the family's paste less on each side, none when nothing is left");
        // Pads of 250 by 100.
        FootprintRules last = made("chip paste 49", CHIP);
        last.make(0, 0);
        duePasteCount(last, 0, 1);
        duePart(last, 0, 0, -451, -1, 152, 2);
        duePasteCountOf(0, "chip paste 50", CHIP);
        duePasteCountOf(0, "chip paste 51", CHIP);
        duePasteCountOf(0, "chip paste 10000000", CHIP);
        duePasteCountOf(1, "chip paste 124", with(CHIP, LEAD, 1000));
        duePasteCountOf(0, "chip paste 125", with(CHIP, LEAD, 1000));
        duePasteCountOf(0, "chip paste 126", with(CHIP, LEAD, 1000));
        duePasteCountOf(0, "chip paste 10000000 part 10000", CHIP);
        duePasteCountOf(0, "chip paste 10000000 part 10000 gap 10000000", CHIP);
        duePasteCountOf(1, "ball paste 49", GRID);
        duePasteCountOf(0, "ball paste 50", GRID);
        // A pad 1 wide.
        duePasteCountOf(1, "chip", with(CHIP, INNER, 998));
        duePasteCountOf(0, "chip paste 1", with(CHIP, INNER, 998));
    }

    private static void pasteColumns() {
        said("for one that is not round, and a part above 0: in columns, gaps between, all as wide "
                + "as can be in whole nanometres, the least number with which that is at most "
                + "part");
        // The pads are as wide as the first number, and 100 high.
        long[][] plain = {{9999, 1, 9999}, {10000, 1, 10000}, {10001, 2, 5000}, {20000, 2, 10000},
            {20001, 2, 10000}, {20002, 3, 6667}, {30002, 3, 10000}, {30003, 4, 7500}};
        for (long[] v : plain) {
            duePartsOf("chip part 10000", v[0], v[1], v[2]);
        }
        long[][] gapped = {{10000, 1, 10000}, {10001, 2, 4997}, {20007, 2, 10000},
            {20008, 2, 10000}, {20009, 3, 6665}, {30016, 3, 10000}, {30017, 4, 7499}};
        for (long[] v : gapped) {
            duePartsOf("chip part 10000 gap 7", v[0], v[1], v[2]);
        }
        duePartsOf("chip part 10001", 10001, 1, 10001);
        duePartsOf("chip part 10001", 10002, 2, 5001);
        duePartsOf("chip part 10000 paste 1", 10002, 1, 10000);
        duePartsOf("chip part 10000 paste 1", 10003, 2, 5000);
        duePartsOf("chip part 0 gap 50", 10000000, 1, 10000000);
        duePartsOf("chip part 10000000", 10000000, 1, 10000000);
        duePartsOf("chip part 10000000", 10000001, 2, 5000000);
        long[] ball = {PITCH, 60000, ROWS, 1, COLUMNS, 1, BALL, 50000};
        duePasteCountOf(1, "ball part 10000", ball);
        duePasteCountOf(1, "ball part 49998 gap 10000000", ball);

        said("rows likewise, upwards");
        FootprintRules x = made("chip part 10000 gap 7", with(CHIP, LEAD, 20010));
        x.make(0, 0);
        duePasteCount(x, 0, 3);
        // 20,010 - 14 in three of 6,665, and 1 left over.
        duePart(x, 0, 0, -500, -10005, 250, 6665);
        duePart(x, 0, 1, -500, -3333, 250, 6665);
        duePart(x, 0, 2, -500, 3339, 250, 6665);
        duePasteCountOf(1, "chip part 10000", with(CHIP, LEAD, 10000));
        duePasteCountOf(2, "chip part 10000", with(CHIP, LEAD, 10001));
    }

    private static void pasteLeftOver() {
        said("what is left over half on the left, cut down, and as many on the right");
        long[][] one = {{30000, 0}, {30001, 0}, {30002, 1}};
        for (long[] v : one) {
            FootprintRules x = wide("chip part 10000", v[0]);
            duePart(x, 1, 0, 10000 + v[1], -50, 10000, 100);
            duePart(x, 1, 1, 20000 + v[1], -50, 10000, 100);
            duePart(x, 1, 2, 30000 + v[1], -50, 10000, 100);
        }
        // 4 of 10,000 and 3 left over; 5 of 10,000, 4 gaps of 9 and 4 left over.
        FootprintRules three = wide("chip part 10000", 40003);
        duePart(three, 1, 0, 10001, -50, 10000, 100);
        duePart(three, 1, 3, 40001, -50, 10000, 100);
        FootprintRules four = wide("chip part 10000 gap 9", 50040);
        duePasteCount(four, 1, 5);
        duePart(four, 1, 0, 10002, -50, 10000, 100);
        duePart(four, 1, 4, 50038, -50, 10000, 100);
        // Rows: 50,004 in five of 10,000, and 4 left over.
        FootprintRules high = made("chip part 10000", with(CHIP, LEAD, 50004));
        high.make(0, 0);
        duePart(high, 0, 0, -500, -25000, 250, 10000);
        duePart(high, 0, 4, -500, 15000, 250, 10000);
    }

    private static void pasteOfNothing() {
        said("none when nothing is left (of a part, neither)");
        // Two columns of 10,001 less the gap.
        duePartsOf("chip part 10000 gap 9997", 10001, 2, 2);
        duePartsOf("chip part 10000 gap 9999", 10001, 2, 1);
        duePartsOf("chip part 10000 gap 10000", 10001, 0, 0);
        duePartsOf("chip part 10000 gap 10001", 10001, 0, 0);
        duePartsOf("chip part 10000 gap 10002", 10001, 0, 0);
        duePartsOf("chip part 10000 gap 10003", 10001, 0, 0);
        duePartsOf("chip part 10000 gap 10000000", 10001, 0, 0);
        duePartsOf("chip part 10000 gap 10000000", 10000, 1, 10000);
        duePasteCountOf(2, "chip part 10000 gap 9999", with(CHIP, LEAD, 10002));
        duePasteCountOf(2, "chip part 10000 gap 10000", with(CHIP, LEAD, 10002));
        duePasteCountOf(0, "chip part 10000 gap 10001", with(CHIP, LEAD, 10002));
        duePasteCountOf(0, "chip part 10000 gap 10002", with(CHIP, LEAD, 10002));
    }

    private static void vias() {
        said("VIAS, with a THERMAL pad and via above 0: as many columns as via goes into its "
                + "width, rows likewise, via apart, around 0");
        long[] base = {OUTER, 200000, INNER, 150000, LEAD, 1000, PITCH, 2000, COUNT, 4};
        long[][] sides = {{2, 0}, {9998, 0}, {10000, 1}, {10002, 1}, {19998, 1}, {20000, 2},
            {29998, 2}, {30000, 3}, {149998, 14}};
        for (long[] side : sides) {
            dueViaCount(side[1], "less via 10000", with(base, THERMAL_LENGTH, side[0],
                    THERMAL_WIDTH, 10000));
            dueViaCount(side[1], "less via 10000", with(base, THERMAL_LENGTH, 10000,
                    THERMAL_WIDTH, side[0]));
            dueViaCount(0, "less via 10000", with(base, THERMAL_LENGTH, side[0],
                    THERMAL_WIDTH, 9998));
        }
        long[] square = with(base, THERMAL_LENGTH, 20000, THERMAL_WIDTH, 20000);
        dueViaCount(0, "less via 0", square);
        dueViaCount(0, "less", square);
        dueViaCount(4, "less via 10000", square);
        dueViaCount(1, "less via 10002", square);
        dueViaCount(1, "less via 20000", square);
        dueViaCount(0, "less via 20002", square);
        dueViaCount(0, "less via 10000", base);
        dueViaCount(0, "less via 10000", with(base, THERMAL_LENGTH, 20000));
        dueViaCount(0, "wing via 10000", square);
        // A pad that UP makes as wide as via.
        dueViaCount(1, "less via 10000 round 500", with(base, THERMAL_LENGTH, 9001,
                THERMAL_WIDTH, 9001));

        said("by rows upwards, columns to the right");
        FootprintRules x = made("less via 10002", with(base, THERMAL_LENGTH, 20004,
                THERMAL_WIDTH, 30006));
        x.make(0, 0);
        long[][] middles = {{-5001, -10002}, {5001, -10002}, {-5001, 0}, {5001, 0},
            {-5001, 10002}, {5001, 10002}};
        due("how many", x.via(NONE, 0), middles.length);
        for (int k = 0; k < middles.length; k++) {
            due("x of " + k, x.via(k, 0), middles[k][0]);
            due("y of " + k, x.via(k, 1), middles[k][1]);
        }
        FootprintRules column = made("less via 10000", with(base, THERMAL_LENGTH, 10000,
                THERMAL_WIDTH, 20000));
        column.make(0, 0);
        due("x in one column", column.via(1, 0), 0);
        due("y in one column", column.via(1, 1), 5000);
        FootprintRules row = made("less via 10000", with(base, THERMAL_LENGTH, 20000,
                THERMAL_WIDTH, 10000));
        row.make(0, 0);
        due("x in one row", row.via(1, 0), 5000);
        due("y in one row", row.via(1, 1), 0);
        FootprintRules one = made("less via 20000", square);
        one.make(0, 0);
        due("x of one", one.via(0, 0), 0);
        due("y of one", one.via(0, 1), 0);
    }

    private static void names() {
        said("NAME: the family's name, how many pads, the letter X, OUTER's high end (0, when not "
                + "told) by 1,000 cut down, and L, N, M for densities 0, 1, 2.");
        dueName("BALL6X0L", 0, "ball", GRID);
        dueName("BALL6X0N", 1, "ball", with(GRID, OUTER, 0));
        dueName("BALL6X0M", 2, "ball", with(GRID, OUTER, 999));
        dueName("BALL6X1L", 0, "ball", with(GRID, OUTER, 1000));
        dueName("BALL6X1L", 0, "ball", with(GRID, OUTER, 1999));
        dueName("BALL6X2L", 0, "ball", with(GRID, OUTER, 2000));
        dueName("BALL6X9M", 2, "ball", with(GRID, OUTER, 9999));
        dueName("BALL6X10N", 1, "ball", with(GRID, OUTER, 10000));
        dueName("BALL6X99999N", 1, "ball", with(GRID, OUTER, 99999999));
        dueName("BALL6X100000N", 1, "ball", with(GRID, OUTER, LONGEST));
        dueName("A9X2L", 0, "less name A", with(LESS, THERMAL_LENGTH, 2, THERMAL_WIDTH, 2));
        dueName("AB10X1M", 2, "wing name AB", with(WING, COUNT, 10));
        dueName("CHIP2X0L", 0, "chip toe 500 0 0", with(CHIP, OUTER, 999));
        FootprintRules x = made("ball", GRID);
        x.span(OUTER, 0, 5000);
        x.leave(1);
        x.make(0, 0);
        dueUnits("the high end, and 5 pads", "BALL5X5L", x::name);
    }

    private static void texts() {
        said("TEXT: the NAME and a line feed; for each pad its number, left side, low side, width, "
                + "height, 1 when it is round, its hole, with spaces between, and a line feed; "
                + "court and its four sides, each with a space ahead, and a line feed.");
        FootprintRules x = made("ball court 1 0 0", with(GRID, ROWS, 1, COLUMNS, 1));
        x.make(0, 0);
        dueUnits("one pad", "BALL1X0L\n1 -50 -50 100 100 1 0\ncourt -51 -51 51 51\n", x::text);
        FootprintRules y = made("hole name H", with(HOLE, COUNT, 2, OUTER, 100, LEAD, 96));
        y.make(0, 1);
        dueUnits("holes", "H2X0N\n1 -98 -48 96 96 1 96\n2 2 -48 96 96 1 96\n"
                + "court -98 -48 98 48\n", y::text);
        FootprintRules z = made("ball", with(GRID, ROWS, 2, COLUMNS, 1));
        z.leave(2);
        z.make(0, 0);
        dueUnits("0 and 1 digit", "BALL1X0L\n1 -50 50 100 100 1 0\ncourt -50 50 50 150\n",
                z::text);
        FootprintRules zero = made("ball", with(GRID, ROWS, 2, COLUMNS, 1, PITCH, 10, BALL, 6,
                BODY_LENGTH, 0, BODY_WIDTH, 0));
        zero.leave(2);
        zero.make(0, 0);
        dueUnits("a side of 0", "BALL1X0L\n1 -3 2 6 6 1 0\ncourt -3 0 3 8\n", zero::text);
        FootprintRules least = made("ball", with(GRID, ROWS, 1, COLUMNS, 1, BALL, 1));
        least.make(0, 0);
        dueUnits("sides of -1 and 1", "BALL1X0L\n1 -1 -1 2 2 1 0\ncourt -1 -1 1 1\n", least::text);
        String[] kinds = {"wing", "less"};
        for (String kind : kinds) {
            dueLongText(kind);
        }
    }

    /** As many pads as there can be, as far away as they can be; new objects keep calls few. */
    private static void dueLongText(String kind) {
        boolean isLess = kind.equals("less");
        long[] spans = {OUTER, LONGEST, INNER, LONGEST - 2, LEAD, 5999998,
            PITCH, isLess ? 6000000 : LONGEST, COUNT, 64, THERMAL_LENGTH, 98999998,
            THERMAL_WIDTH, 98999998};
        String words = kind + " toe 0 0 10000000 court 0 0 10000000 name WXYZ";
        FootprintRules x = made(words, spans);
        int pads = isLess ? 65 : 64;
        due("make", x.make(0, 2), pads);
        StringBuilder due = new StringBuilder("WXYZ" + pads + "X100000M\n");
        for (int k = 0; k < pads; k++) {
            FootprintRules y = k % 50 == 0 ? made(words, spans) : x;
            if (y != x) {
                y.make(0, 2);
                x = y;
            }
            for (int what = 0; what < 7; what++) {
                due.append(y.pad(k, what)).append(what < 6 ? " " : "\n");
            }
        }
        due.append("court");
        for (int side = 0; side < 4; side++) {
            due.append(" ").append(x.court(side));
        }
        due.append("\n");
        for (int i = 0; i <= due.length(); i++) {
            if (i % 300 == 0) {
                x = made(words, spans);
                x.make(0, 2);
            }
            due("character " + i, x.text(i), i < due.length() ? due.charAt(i) : NONE);
        }
    }
}
