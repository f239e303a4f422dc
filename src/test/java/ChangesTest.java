import java.util.ArrayList;
import java.util.List;

/** What each call changes when it is taken, and that it changes nothing else. */
public final class ChangesTest extends Checks {
    private static final long[] SPANS = {OUTER, 90000, INNER, 60000, LEAD, 100, PITCH, 200,
        COUNT, 8, ROWS, 2, COLUMNS, 3, BALL, 100, THERMAL_LENGTH, 20000, THERMAL_WIDTH, 30000,
        BODY_LENGTH, 95000, BODY_WIDTH, 98000};

    private interface Call {
        void on(FootprintRules x);
    }

    /** What an object holds, as it can be seen from outside; looking at it may use it up. */
    private enum Part { FOOTPRINT, WORDS, FAMILIES, SPANS, BALLS, HAND_MADE }

    public static void main(String[] args) {
        said("One more character of the words.");
        dueChanged("a unit", x -> x.unit('~'), Part.WORDS);
        dueChanged("a break", x -> x.unit(' '));

        said("A new family of the words that were collected, which are gone then: its number, from "
                + "0");
        dueChanged("a family", x -> x.family(), Part.WORDS, Part.FAMILIES);
        said("there is no new one, and the words are gone, too.");
        dueChanged("wrong words", x -> {
            x.unit('~');
            x.family();
        }, Part.WORDS);

        said("A span");
        for (int i = 0; i < SPANS.length; i += 2) {
            int what = (int) SPANS[i];
            long same = SPANS[i + 1];
            long other = what == ROWS || what == COLUMNS || what == COUNT ? 4 : same + 2;
            dueChanged("span " + what, x -> x.span(what, other, other), Part.SPANS);
            dueChanged("the same span " + what, x -> x.span(what, same, same));
        }

        said("Makes a footprint of a family and density: how many pads; NONE, refused, when "
                + "something is not as said (there is none at hand then).");
        dueChanged("another density", x -> x.make(0, 2), Part.FOOTPRINT);
        dueChanged("another family", x -> x.make(1, 1), Part.FOOTPRINT);
        dueChanged("the same again", x -> x.make(0, 1));
        dueChanged("a refused one", x -> due("refused", x.make(2, 0), NONE), Part.FOOTPRINT);

        said("A ball (1 .. 64) is LEFT OUT from now on, or not any more: whether it is. (The "
                + "footprint at hand stays.)");
        dueChanged("a ball", x -> x.leave(3), Part.BALLS);
        dueChanged("a ball that was LEFT OUT", x -> x.leave(2), Part.BALLS);
        dueChanged("a ball twice", x -> {
            x.leave(3);
            x.leave(3);
        });

        said("A hand-made pad with a number (1 .. 80)");
        dueChanged("a new pad", x -> x.hand(3, 5, 5, 5, 5), Part.HAND_MADE);
        dueChanged("another in its place", x -> x.hand(1, 5, 5, 5, 5), Part.HAND_MADE);
        dueChanged("the same again", x -> x.hand(1, -250, 50, 100, 100));

        said("No words, spans, hand-made pads, balls LEFT OUT, and no footprint at hand. (Families "
                + "stay.)");
        dueChanged("clear", x -> x.clear(), Part.FOOTPRINT, Part.WORDS, Part.SPANS, Part.BALLS,
                Part.HAND_MADE);
        end();
    }

    /** Words, three families, all spans, balls LEFT OUT, hand-made pads and a footprint. */
    private static FootprintRules full() {
        FootprintRules x = new FootprintRules();
        tellFamily(x, "ball mask 3 paste 2 court 1 2 3");
        tellFamily(x, "less via 10000");
        tellFamily(x, "hole heel 9999 0 0");
        tellSpans(x, SPANS);
        x.leave(2);
        x.leave(64);
        x.hand(1, -250, 50, 100, 100);
        x.hand(70, 0, 0, 1, 1);
        tell(x, "chip mask 5");
        due("make", x.make(0, 1), 5);
        return x;
    }

    private static void dueChanged(String what, Call call, Part... parts) {
        List<Part> changed = new ArrayList<>();
        for (Part part : Part.values()) {
            FootprintRules x = full();
            call.on(x);
            if (!seen(x, part).equals(seen(full(), part))) {
                changed.add(part);
            }
        }
        dueSame("what changed by " + what, changed.toString(), List.of(parts).toString());
    }

    private static String seen(FootprintRules x, Part part) {
        switch (part) {
            case FOOTPRINT:
                return seenFootprint(x);
            case WORDS:
                return "" + x.family();
            case FAMILIES:
                return seenFamilies(x);
            case SPANS:
                return seenSpans(x);
            case BALLS:
                return seenBalls(x);
            default:
                return seenHandMade(x);
        }
    }

    private static String seenFootprint(FootprintRules x) {
        try {
            return textOf(x) + x.mask(1, 1) + " " + x.paste(1, 2) + " " + x.via(NONE, 0);
        } catch (IllegalStateException e) {
            return "none at hand";
        }
    }

    private static String textOf(FootprintRules x) {
        StringBuilder s = new StringBuilder();
        int unit = x.text(0);
        for (int i = 1; i < 360 && unit != NONE; i++) {
            s.append((char) unit);
            unit = x.text(i);
        }
        return s.toString();
    }

    private static String seenFamilies(FootprintRules x) {
        StringBuilder s = new StringBuilder();
        for (int family = 0; family < 8; family++) {
            try {
                x.clear();
                tellSpans(x, SPANS);
                s.append(x.make(family, 0)).append(' ');
            } catch (IndexOutOfBoundsException e) {
                s.append("none ");
            }
        }
        return s.toString();
    }

    /** By a kind without balls, and by the first ball, which no call here leaves out. */
    private static String seenSpans(FootprintRules x) {
        StringBuilder s = new StringBuilder();
        if (x.make(1, 0) == NONE) {
            return "refused";
        }
        s.append(textOf(x));
        x.make(0, 0);
        for (int what = 0; what < 7; what++) {
            s.append(x.pad(0, what)).append(' ');
        }
        return s.toString();
    }

    private static String seenBalls(FootprintRules x) {
        StringBuilder s = new StringBuilder();
        for (int ball = 1; ball <= 64; ball++) {
            s.append(x.leave(ball) ? '.' : 'x');
        }
        return s.toString();
    }

    /** By a footprint of the first family and all balls, then by which numbers are there. */
    private static String seenHandMade(FootprintRules x) {
        StringBuilder s = new StringBuilder();
        tellSpans(x, SPANS);
        x.make(0, 0);
        s.append(x.pad(0, 0)).append(' ');
        int before = x.check();
        x.hand(1, -250, 50, 100, 100);
        s.append(before - x.check()).append(' ');
        for (int k = 2; k <= 80; k++) {
            s.append(x.hand(k, 0, 0, 1, 1) ? '.' : 'x');
        }
        return s.toString();
    }
}
