/**
 * The sentences of the document's "Terms" that name no boundary case: the spans' numbers, and the
 * pads of each kind, one by one. Lengths across, along and between pads are all different, so that
 * one of them in another's place would show.
 */
public final class TermsTest extends Checks {
    private static final String RULES = " toe 10 20 30 heel 5 6 7 side 1 2 3";
    private static final long[] SPANS = {OUTER, 4000, INNER, 2000, LEAD, 100, PITCH, 300, COUNT, 8,
        ROWS, 2, COLUMNS, 3, BALL, 120, THERMAL_LENGTH, 500, THERMAL_WIDTH, 400,
        BODY_LENGTH, 7000, BODY_WIDTH, 6000};

    public static void main(String[] args) {
        spansByNumber();
        spansOfEachKind();
        pads();
        sidesLeftAndRight();
        sidesLowAndHigh();
        chip();
        wing();
        less();
        ball();
        hole();
        constants();
        end();
    }

    /**
     * With Z of 4,040, G of 1,988, X of 104: the pads are 1,026 by 104, from -2,020 and from 994
     * on.
     */
    private static FootprintRules ofDensityOne(String kind, int pads, long... others) {
        FootprintRules x = made(kind + RULES, with(SPANS, others));
        due("make", x.make(0, 1), pads);
        return x;
    }

    private static void spansByNumber() {
        said("0 OUTER, 1 INNER, 2 LEAD, 3 PITCH, 4 COUNT, 5 ROWS, 6 COLUMNS, 7 BALL, 8 and 9 "
                + "THERMAL length and width, 10 and 11 BODY length and width");
        due("OUTER", ofDensityOne("chip", 2, 0, 4002).pad(0, 1), -2021);
        due("INNER", ofDensityOne("chip", 2, 1, 1998).pad(1, 1), 993);
        due("LEAD", ofDensityOne("chip", 2, 2, 102).pad(0, 4), 106);
        due("PITCH", ofDensityOne("wing", 8, 3, 302).pad(0, 2), 453 - 52);
        due("COUNT", ofDensityOne("wing", 12, 4, 12).pad(11, 0), 12);
        due("ROWS", ofDensityOne("ball", 9, 5, 3).pad(0, 2), 300 - 62);
        due("COLUMNS", ofDensityOne("ball", 8, 6, 4).pad(0, 1), -450 - 62);
        due("BALL", ofDensityOne("ball", 6, 7, 122).pad(0, 3), 126);
        due("THERMAL length", ofDensityOne("less", 9, 8, 502).pad(8, 3), 502);
        due("THERMAL width", ofDensityOne("less", 9, 9, 402).pad(8, 4), 402);
        due("BODY length", ofDensityOne("chip", 2, 10, 7002).court(2), 3501);
        due("BODY width", ofDensityOne("chip", 2, 11, 6002).court(3), 3001);
    }

    /** Each span, told otherwise, shows in the texts of the kinds that use it, and in no other. */
    private static void spansOfEachKind() {
        said("Spans must be told: chip OUTER, INNER, LEAD; wing and less also PITCH, COUNT; ball "
                + "PITCH, ROWS, COLUMNS, BALL; hole OUTER, LEAD, PITCH, COUNT.");
        long[] others = {6000, 1990, 110, 310, 4, 1, 2, 130, 510, 410, 8000, 8000};
        // OUTER shows in the name of ball, too, and a body in each kind's courtyard.
        String[] users = {"chip wing less ball hole", "chip wing less", "chip wing less hole",
            "wing less ball hole", "wing less hole", "ball", "ball", "ball", "less", "less",
            "chip wing less ball hole", "chip wing less ball hole"};
        for (int what = 0; what < others.length; what++) {
            for (String kind : KINDS) {
                String before = textOf(kind);
                String after = textOf(kind, what, others[what]);
                dueTrue("span " + what + " shows in " + kind,
                        before.equals(after) != users[what].contains(kind));
            }
        }
    }

    private static String textOf(String kind, long... others) {
        FootprintRules x = made(kind + RULES, with(SPANS, others));
        dueTrue("make", x.make(0, 1) > 0);
        StringBuilder s = new StringBuilder();
        int unit = x.text(0);
        for (int i = 1; i < 400 && unit != NONE; i++) {
            s.append((char) unit);
            unit = x.text(i);
        }
        due("the text's end", unit, NONE);
        return s.toString();
    }

    private static void pads() {
        said("PADS are rectangles along the axes, or round, by a number, a left and a low side, "
                + "width, height.");
        duePad(ofDensityOne("less", 9), 8, 9, -250, -200, 500, 400, 0, 0);
        duePad(ofDensityOne("chip", 2), 0, 1, -2020, -52, 1026, 104, 0, 0);
        duePad(ofDensityOne("ball", 6), 0, 1, -362, 88, 124, 124, 1, 0);
        duePad(ofDensityOne("hole", 8), 0, 1, -2058, 392, 116, 116, 1, 112);
    }

    private static void sidesLeftAndRight() {
        said("LEFT and RIGHT pads are (Z - G) / 2 wide, X high, from x -Z / 2 on, and from G / 2 "
                + "on, in a ROW up and down");
        FootprintRules x = ofDensityOne("wing", 6, COUNT, 6);
        long[] lows = {248, -52, -352};
        for (int k = 0; k < 6; k++) {
            duePad(x, k, k + 1, k < 3 ? -2020 : 994, lows[k < 3 ? k : 5 - k], 1026, 104, 0, 0);
        }
        // By (Z - G) / 2 and G / 2 that are odd, too.
        FootprintRules odd = made("chip", OUTER, 1004, INNER, 502, LEAD, 6);
        odd.make(0, 0);
        duePad(odd, 0, 1, -502, -3, 251, 6, 0, 0);
        duePad(odd, 1, 2, 251, -3, 251, 6, 0, 0);
    }

    private static void sidesLowAndHigh() {
        said("LOW and HIGH ones X wide, (Z - G) / 2 high, from y -Z / 2 on, and from G / 2 on, in "
                + "a ROW left and right");
        FootprintRules x = ofDensityOne("less", 13, COUNT, 12);
        long[] lefts = {-352, -52, 248};
        for (int i = 0; i < 3; i++) {
            duePad(x, 3 + i, 4 + i, lefts[i], -2020, 104, 1026, 0, 0);
            duePad(x, 9 + i, 10 + i, lefts[2 - i], 994, 104, 1026, 0, 0);
        }
    }

    private static void chip() {
        said("chip: one LEFT pad, number 1, one RIGHT one, 2.");
        FootprintRules x = ofDensityOne("chip", 2);
        duePad(x, 0, 1, -2020, -52, 1026, 104, 0, 0);
        duePad(x, 1, 2, 994, -52, 1026, 104, 0, 0);
        dueThrow("no third one", IndexOutOfBoundsException.class, () -> x.pad(2, 0));
    }

    private static void wing() {
        said("wing: half of COUNT LEFT ones downwards, numbers from 1 on, then the RIGHT ones "
                + "upwards.");
        FootprintRules x = ofDensityOne("wing", 8);
        long[] lows = {398, 98, -202, -502};
        for (int i = 0; i < 4; i++) {
            duePad(x, i, 1 + i, -2020, lows[i], 1026, 104, 0, 0);
            duePad(x, 4 + i, 5 + i, 994, lows[3 - i], 1026, 104, 0, 0);
        }
    }

    private static void less() {
        said("less: quarters of COUNT: LEFT downwards, LOW to the right, RIGHT upwards, HIGH to "
                + "the left; if both THERMAL spans are told, one more in the middle, of their high "
                + "ends, each UP by 2 n.");
        FootprintRules x = ofDensityOne("less", 9);
        duePad(x, 0, 1, -2020, 98, 1026, 104, 0, 0);
        duePad(x, 1, 2, -2020, -202, 1026, 104, 0, 0);
        duePad(x, 2, 3, -202, -2020, 104, 1026, 0, 0);
        duePad(x, 3, 4, 98, -2020, 104, 1026, 0, 0);
        duePad(x, 4, 5, 994, -202, 1026, 104, 0, 0);
        duePad(x, 5, 6, 994, 98, 1026, 104, 0, 0);
        duePad(x, 6, 7, 98, 994, 104, 1026, 0, 0);
        duePad(x, 7, 8, -202, 994, 104, 1026, 0, 0);
        duePad(x, 8, 9, -250, -200, 500, 400, 0, 0);
    }

    private static void ball() {
        said("ball: for each row from the highest, each column from the left: round ones of D");
        FootprintRules x = ofDensityOne("ball", 6);
        duePad(x, 0, 1, -362, 88, 124, 124, 1, 0);
        duePad(x, 1, 2, -62, 88, 124, 124, 1, 0);
        duePad(x, 2, 3, 238, 88, 124, 124, 1, 0);
        duePad(x, 3, 4, -362, -212, 124, 124, 1, 0);
        duePad(x, 4, 5, -62, -212, 124, 124, 1, 0);
        duePad(x, 5, 6, 238, -212, 124, 124, 1, 0);

        said("middles PITCH apart, in the middle around 0");
        FootprintRules y = ofDensityOne("ball", 3, ROWS, 3, COLUMNS, 1);
        long[] lows = {238, -62, -362};
        for (int k = 0; k < 3; k++) {
            duePad(y, k, k + 1, -62, lows[k], 124, 124, 1, 0);
        }
        FootprintRules z = ofDensityOne("ball", 2, ROWS, 1, COLUMNS, 2, PITCH, 302);
        duePad(z, 0, 1, -213, -62, 124, 124, 1, 0);
        duePad(z, 1, 2, 89, -62, 124, 124, 1, 0);
        // Where others are LEFT OUT, a ball keeps its place and its number.
        FootprintRules left = made("ball" + RULES, SPANS);
        int[] out = {1, 2, 3, 4};
        for (int number : out) {
            left.leave(number);
        }
        due("make", left.make(0, 1), 2);
        duePad(left, 0, 5, -62, -212, 124, 124, 1, 0);
        duePad(left, 1, 6, 238, -212, 124, 124, 1, 0);
    }

    private static void hole() {
        said("hole: as wing, round, the middles OUTER apart, d + 2 UP (s, n) wide, with a hole of "
                + "d, UP (LEAD's high end + 2 h, 2 n).");
        FootprintRules x = ofDensityOne("hole", 6, COUNT, 6);
        long[] lows = {242, -58, -358};
        for (int i = 0; i < 3; i++) {
            duePad(x, i, 1 + i, -2058, lows[i], 116, 116, 1, 112);
            duePad(x, 3 + i, 4 + i, 1942, lows[2 - i], 116, 116, 1, 112);
        }
    }

    private static void constants() {
        said("The constants: `NONE = -1`: There is none.");
        due("NONE", NONE, -1);
        FootprintRules x = ofDensityOne("chip", 2);
        due("behind the name", x.name(99), -1);
        due("behind the text", x.text(999), -1);
        x.clear();
        due("a footprint that is refused", x.make(0, 0), -1);
    }
}
