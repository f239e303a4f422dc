import java.util.List;
import java.util.Random;

/**
 * Any calls with any arguments, from fixed seeds and far past the 512th one: what they answer is
 * free there, but each comes to an end, and throws nothing but what the face names for it, and
 * never by the machine's hand.
 */
public final class AnyCallTest {
    private static final int RUNS = 300;
    private static final int CALLS = 2000;
    private static final String[] WORDS = {"chip", "wing", "less", "ball", "hole", "toe", "heel",
        "side", "court", "round", "mask", "paste", "gap", "part", "via", "name", "0", "1", "7",
        "10000", "9999998", "10000000", "99999999", "A", "ZZZZ", "a", "~"};
    private static final long[] NUMBERS = {0, 1, 2, 3, 4, 5, 6, 7, 8, 9, 10, 11, 12, 20, 32, 64, 65,
        80, 81, 100, 200, 600, 1000, 9999, 10000, 50000000, 99999998, 100000000, 100000001,
        -1, -2, -4, -100000000, -100000001, Integer.MAX_VALUE, Integer.MIN_VALUE, 1L << 32,
        Long.MAX_VALUE, Long.MIN_VALUE};

    private static final List<Class<?>> NOTHING = List.of();
    private static final List<Class<?>> STATE = List.of(IllegalStateException.class);
    private static final List<Class<?>> ARGUMENT = List.of(IllegalArgumentException.class);
    private static final List<Class<?>> STATE_OR_INDEX =
            List.of(IllegalStateException.class, IndexOutOfBoundsException.class);
    private static final List<Class<?>> INDEX_OR_ARGUMENT =
            List.of(IndexOutOfBoundsException.class, IllegalArgumentException.class);

    private static int wrong = 0;
    private static int answered = 0;
    private static int thrown = 0;
    private static int footprints = 0;

    private final FootprintRules x = new FootprintRules();
    private final Random random;
    private final int seed;

    private AnyCallTest(int seed) {
        this.seed = seed;
        this.random = new Random(seed);
    }

    public static void main(String[] args) {
        for (int seed = 0; seed < RUNS && wrong < 20; seed++) {
            AnyCallTest run = new AnyCallTest(seed);
            for (int i = 0; i < CALLS; i++) {
                run.callOnce();
            }
        }
        // Calls that all throw, or that find nothing at hand, would try little.
        if (thrown < CALLS || answered < CALLS || footprints < RUNS) {
            wrong++;
            System.out.println("only " + footprints + " footprints, " + thrown + " thrown");
        }
        System.out.println(wrong == 0
                ? answered + " calls answered, " + thrown + " threw as due, " + footprints + " made"
                : wrong + " calls threw otherwise");
        if (wrong != 0) {
            System.exit(1);
        }
    }

    private void callOnce() {
        switch (random.nextInt(20)) {
            case 0:
                tellFamily();
                break;
            case 1:
            case 2:
                tellSpans();
                break;
            case 3:
            case 4:
                make(random.nextInt(8), random.nextInt(3));
                break;
            default:
                odd(random.nextInt(15));
                break;
        }
    }

    /** Words in any order, most of which are no family. */
    private void tellFamily() {
        StringBuilder words = new StringBuilder(WORDS[random.nextInt(5)]);
        for (int i = random.nextInt(4); i > 0; i--) {
            words.append(i % 2 == 0 ? ' ' : '\n').append(WORDS[random.nextInt(WORDS.length)]);
        }
        for (int i = 0; i < words.length(); i++) {
            x.unit(words.charAt(i));
        }
        call("family of " + words, STATE, () -> x.family());
    }

    /** Spans with which most families make a footprint, and one of them at will. */
    private void tellSpans() {
        long scale = random.nextBoolean() ? 1 : 100000;
        long[] told = {900, 600, 20, 30, 4L * (1 + random.nextInt(16)), 1 + random.nextInt(8),
            1 + random.nextInt(8), 20, 500, 400, 700, 800};
        for (int what = 0; what < told.length; what++) {
            long v = what >= 4 && what <= 6 ? told[what] : told[what] * scale;
            x.span(what, v, v);
        }
        odd(2);
    }

    private void make(int family, int density) {
        call("make " + family + " " + density, INDEX_OR_ARGUMENT, () -> {
            if (x.make(family, density) > 0) {
                footprints++;
            }
        });
    }

    private void odd(int which) {
        int a = (int) number();
        int b = (int) number();
        long c = number();
        long d = number();
        String of = which + " of " + a + " " + b + " " + c + " " + d;
        switch (which) {
            case 0:
                call("unit " + of, NOTHING, () -> x.unit(a));
                break;
            case 1:
                call("family " + of, STATE, () -> x.family());
                break;
            case 2:
                call("span " + of, INDEX_OR_ARGUMENT, () -> x.span(a, c, d));
                break;
            case 3:
                make(a, b);
                break;
            case 4:
                call("pad " + of, STATE_OR_INDEX, () -> x.pad(a, b));
                break;
            case 5:
                call("name " + of, STATE_OR_INDEX, () -> x.name(a));
                break;
            case 6:
                call("court " + of, STATE_OR_INDEX, () -> x.court(a));
                break;
            case 7:
                call("mask " + of, STATE_OR_INDEX, () -> x.mask(a, b));
                break;
            case 8:
                call("paste " + of, STATE_OR_INDEX, () -> x.paste(a, b));
                break;
            case 9:
                call("leave " + of, ARGUMENT, () -> x.leave(a));
                break;
            case 10:
                call("via " + of, STATE_OR_INDEX, () -> x.via(a, b));
                break;
            case 11:
                call("check " + of, STATE, () -> x.check());
                break;
            case 12:
                call("hand " + of, INDEX_OR_ARGUMENT, () -> x.hand(a, c, d, c, d));
                break;
            case 13:
                call("text " + of, STATE_OR_INDEX, () -> x.text(a));
                break;
            default:
                call("clear", NOTHING, () -> {
                    if (random.nextInt(20) == 0) {
                        x.clear();
                    }
                });
                break;
        }
    }

    private long number() {
        return random.nextInt(3) == 0 ? NUMBERS[random.nextInt(NUMBERS.length)]
                : random.nextInt(9) - 1;
    }

    /** What the machine throws is of a class below those of the face, so it would show. */
    private void call(String what, List<Class<?>> allowed, Runnable call) {
        try {
            call.run();
            answered++;
        } catch (RuntimeException | Error e) {
            thrown++;
            if (!allowed.contains(e.getClass())) {
                wrong++;
                System.out.println("seed " + seed + ": " + what + " threw " + e);
            }
        }
    }
}
