import java.util.Arrays;

/**
 * What tests by hand-worked values have in common. The checks behind a sentence of the document
 * are due by it, and a wrong answer is told with it.
 */
abstract class Checks {
    static final int NONE = FootprintRules.NONE;
    static final int OUTER = 0;
    static final int INNER = 1;
    static final int LEAD = 2;
    static final int PITCH = 3;
    static final int COUNT = 4;
    static final int ROWS = 5;
    static final int COLUMNS = 6;
    static final int BALL = 7;
    static final int THERMAL_LENGTH = 8;
    static final int THERMAL_WIDTH = 9;
    static final int BODY_LENGTH = 10;
    static final int BODY_WIDTH = 11;
    static final int LONGEST = 100000000;

    static final String[] KINDS = {"chip", "wing", "less", "ball", "hole"};
    static final String[] NUMBER_KEYS = {"toe", "heel", "side", "court", "round", "mask",
        "paste", "gap", "part", "via"};

    // Spans with which each kind is made: a span's number, then the value of both its ends.
    static final long[] CHIP = {OUTER, 1000, INNER, 500, LEAD, 100};
    static final long[] WING = {OUTER, 1000, INNER, 500, LEAD, 100, PITCH, 200, COUNT, 8};
    static final long[] LESS = {OUTER, 2000, INNER, 1000, LEAD, 100, PITCH, 200, COUNT, 8};
    static final long[] GRID = {PITCH, 200, ROWS, 2, COLUMNS, 3, BALL, 100};
    static final long[] HOLE = {OUTER, 1000, LEAD, 100, PITCH, 200, COUNT, 8};

    private static String sentence = "";
    private static int sentences = 0;
    private static int checks = 0;
    private static int wrong = 0;

    interface Units {
        int at(int i);
    }

    /** The checks that follow are due by this sentence; each has some. */
    static void said(String newSentence) {
        if (sentences > 0 && checks == 0) {
            wrong("nothing is checked");
        }
        sentence = newSentence;
        checks = 0;
        if (!newSentence.isEmpty()) {
            sentences++;
        }
    }

    /** At the end of a test: tells how it went, and ends with 1 when an answer was wrong. */
    static void end() {
        said("");
        System.out.println(wrong == 0 ? sentences + " sentences hold"
                : wrong + " answers are wrong");
        if (wrong != 0) {
            System.exit(1);
        }
    }

    static void wrong(String what) {
        wrong++;
        System.out.println("\"" + sentence + "\": " + what);
    }

    static long[] spansOf(String kind) {
        switch (kind) {
            case "chip":
                return CHIP;
            case "wing":
                return WING;
            case "less":
                return LESS;
            case "ball":
                return GRID;
            default:
                return HOLE;
        }
    }

    static long valueOf(long[] spans, int what, long other) {
        long v = other;
        for (int i = 0; i < spans.length; i += 2) {
            v = spans[i] == what ? spans[i + 1] : v;
        }
        return v;
    }

    /** Spans told first, and others told after them, in their place or besides. */
    static long[] with(long[] spans, long... others) {
        long[] all = new long[spans.length + others.length];
        System.arraycopy(spans, 0, all, 0, spans.length);
        System.arraycopy(others, 0, all, spans.length, others.length);
        return all;
    }

    /** A key's values: the same one, as many times as it needs. */
    static String values(String key, String value) {
        boolean isOfDensity = key.equals("toe") || key.equals("heel") || key.equals("side")
                || key.equals("court");
        return isOfDensity ? " " + value + " " + value + " " + value : " " + value;
    }

    /** A new object with a family and EXACT spans. */
    static FootprintRules made(String words, long... spans) {
        FootprintRules x = new FootprintRules();
        due(words, tellFamily(x, words), 0);
        tellSpans(x, spans);
        return x;
    }

    /** A chip with pads of a width, 100 high, the second one from 10,000 on. */
    static FootprintRules wide(String words, long width) {
        FootprintRules x = made(words, OUTER, 2 * width + 20000, INNER, 20000, LEAD, 100);
        due("make", x.make(0, 0), 2);
        due("width", x.pad(1, 3), width);
        return x;
    }

    static void tellSpans(FootprintRules x, long[] spans) {
        for (int i = 0; i < spans.length; i += 2) {
            dueTrue("span " + spans[i], x.span((int) spans[i], spans[i + 1], spans[i + 1]));
        }
    }

    static int tellFamily(FootprintRules x, String words) {
        tell(x, words);
        return x.family();
    }

    static void tell(FootprintRules x, String words) {
        for (int i = 0; i < words.length(); i++) {
            dueTrue("unit " + words.charAt(i), x.unit(words.charAt(i)));
        }
    }

    static void dueFamily(String words, int due) {
        due("family of '" + words + "'", tellFamily(new FootprintRules(), words), due);
    }

    static void dueMake(long due, String words, long... spans) {
        due("make of " + words + " with " + Arrays.toString(spans),
                made(words, spans).make(0, 0), due);
    }

    static void dueRefused(String words, long... spans) {
        dueMake(NONE, words, spans);
    }

    static void dueMade(String words, long... spans) {
        dueTrue("make of " + words + " with " + Arrays.toString(spans),
                made(words, spans).make(0, 0) > 0);
    }

    static void duePad(FootprintRules x, int k, long... due) {
        for (int what = 0; what < 7; what++) {
            due("pad " + k + ", " + what, x.pad(k, what), due[what]);
        }
    }

    static void dueCourtOf(String words, long[] spans, long... due) {
        FootprintRules x = made(words, spans);
        x.make(0, 0);
        dueCourt(x, due);
    }

    static void dueCourt(FootprintRules x, long... due) {
        for (int side = 0; side < 4; side++) {
            due("court " + side, x.court(side), due[side]);
        }
    }

    static void dueMask(FootprintRules x, int k, long... due) {
        for (int what = 0; what < 4; what++) {
            due("mask " + k + ", " + what, x.mask(k, what), due[what]);
        }
    }

    /** How many parts, and that there is a last one, and none behind it. */
    static void duePasteCount(FootprintRules x, int k, int due) {
        due("parts of pad " + k, x.paste(k, NONE), due);
        dueThrow("part " + due, IndexOutOfBoundsException.class, () -> x.paste(k, 4 * due));
        if (due > 0) {
            dueTrue("the last part", x.paste(k, 4 * due - 1) > 0);
        }
    }

    static void duePasteCountOf(int due, String words, long... spans) {
        FootprintRules x = made(words, spans);
        x.make(0, 0);
        duePasteCount(x, 0, due);
    }

    static void duePartsOf(String words, long width, long parts, long each) {
        FootprintRules x = wide(words, width);
        duePasteCount(x, 1, (int) parts);
        if (parts > 0) {
            due("width of the first part of " + width, x.paste(1, 2), each);
        }
    }

    static void duePart(FootprintRules x, int k, int part, long... due) {
        for (int i = 0; i < 4; i++) {
            due("pad " + k + ", part " + part + ", " + i, x.paste(k, 4 * part + i), due[i]);
        }
    }

    static void dueViaCount(long due, String words, long... spans) {
        FootprintRules x = made(words, spans);
        dueTrue("make", x.make(0, 0) > 0);
        due("vias of " + words + " with " + Arrays.toString(spans), x.via(NONE, 0),
                due);
    }

    static void dueName(String due, int density, String words, long... spans) {
        FootprintRules x = made(words, spans);
        dueTrue("make", x.make(0, density) > 0);
        dueUnits("name", due, x::name);
    }

    static void dueUnits(String what, String due, Units units) {
        for (int i = 0; i < due.length(); i++) {
            due(what + ", character " + i, units.at(i), due.charAt(i));
        }
        due(what + ", behind the last one", units.at(due.length()), NONE);
    }

    static void dueNothingAtHand(FootprintRules x) {
        dueThrow("pad", IllegalStateException.class, () -> x.pad(0, 0));
        dueThrow("name", IllegalStateException.class, () -> x.name(0));
        dueThrow("court", IllegalStateException.class, () -> x.court(0));
        dueThrow("mask", IllegalStateException.class, () -> x.mask(0, 0));
        dueThrow("paste", IllegalStateException.class, () -> x.paste(0, NONE));
        dueThrow("via", IllegalStateException.class, () -> x.via(NONE, 0));
        dueThrow("check", IllegalStateException.class, () -> x.check());
        dueThrow("text", IllegalStateException.class, () -> x.text(0));
    }

    static void dueSame(String what, String got, String due) {
        checks++;
        if (!got.equals(due)) {
            wrong(what + " there is " + got + ", due is " + due);
        }
    }

    static void dueThrow(String what, Class<? extends RuntimeException> due, Runnable call) {
        checks++;
        String got = "nothing";
        try {
            call.run();
        } catch (RuntimeException e) {
            got = e.getClass().getName();
        }
        if (!got.equals(due.getName())) {
            wrong(what + " threw " + got + ", due is " + due.getName());
        }
    }

    static void dueTrue(String what, boolean got) {
        due(what, got ? 1 : 0, 1);
    }

    static void dueFalse(String what, boolean got) {
        due(what, got ? 1 : 0, 0);
    }

    static void due(String what, long got, long due) {
        checks++;
        if (got != due) {
            wrong(what + " answered " + got + ", due is " + due);
        }
    }
}
