import java.util.ArrayList;
import java.util.HashMap;
import java.util.List;
import java.util.Map;
import java.util.Random;
import java.util.TreeSet;

/**
 * Random runs of calls, from fixed seeds, each answer compared with that of a second reading of
 * the document, which keeps lists and texts and counts up where the program works out a sum.
 */
public final class ModelTest {
    private static final int RUNS = 4000;
    private static final int CALLS = 512;
    private static final String[] KINDS = {"chip", "wing", "less", "ball", "hole"};
    private static final String[] KEYS = {"toe", "heel", "side", "court", "round", "mask", "paste",
        "gap", "part", "via", "name"};

    private static int wrong = 0;
    private static int footprints = 0;
    private static int refusals = 0;

    public static void main(String[] args) {
        for (int seed = 0; seed < RUNS && wrong < 20; seed++) {
            new Run(seed).go();
        }
        // A test that makes nothing, or refuses nothing, would compare nothing.
        if (footprints < RUNS || refusals < RUNS) {
            wrong++;
            System.out.println("only " + footprints + " footprints, " + refusals + " refusals");
        }
        System.out.println(wrong == 0
                ? "all " + footprints + " footprints and " + refusals + " refusals agree"
                : wrong + " answers are wrong");
        if (wrong != 0) {
            System.exit(1);
        }
    }

    private interface Call {
        long of(Face x);
    }

    /** What the program and the model have in common. */
    private interface Face {
        boolean unit(int u);

        int family();

        boolean span(int what, long low, long high);

        int make(int family, int density);

        long pad(int k, int what);

        int name(int i);

        long court(int side);

        int mask(int k, int what);

        int paste(int k, int what);

        boolean leave(int ball);

        int via(int k, int axis);

        int check();

        boolean hand(int k, long x, long y, long w, long h);

        int text(int i);

        void clear();
    }

    private static final class Run {
        private final int seed;
        private final Random random;
        private final Program program = new Program();
        private final Model model = new Model();
        private int calls = 0;

        Run(int seed) {
            this.seed = seed;
            this.random = new Random(seed);
        }

        void go() {
            while (calls < CALLS && wrong < 20) {
                switch (random.nextInt(12)) {
                    case 0:
                        tellFamily();
                        break;
                    case 1:
                        oddCall();
                        break;
                    case 2:
                        if (random.nextInt(20) == 0) {
                            ask("clear", x -> {
                                x.clear();
                                return 0;
                            });
                        }
                        break;
                    case 3:
                        leaveOne();
                        break;
                    case 4:
                        copyByHand();
                        break;
                    case 5:
                    case 6:
                        tellBody();
                        break;
                    case 7:
                        makeOne();
                        break;
                    default:
                        look();
                        break;
                }
            }
        }

        private void leaveOne() {
            int ball = 1 + random.nextInt(random.nextBoolean() ? 4 : 64);
            ask("leave " + ball, x -> x.leave(ball) ? 1 : 0);
        }

        private void tellFamily() {
            String words = randomWords();
            if (calls + words.length() > CALLS / 2 && model.families.size() > 0) {
                return;
            }
            for (int i = 0; i < words.length(); i++) {
                int u = words.charAt(i);
                ask("unit " + u, x -> x.unit(u) ? 1 : 0);
            }
            ask("family of " + words, x -> x.family());
        }

        private String randomWords() {
            List<String> words = new ArrayList<>();
            words.add(KINDS[random.nextInt(KINDS.length)]);
            int keys = random.nextInt(6);
            for (int i = 0; i < keys; i++) {
                String key = KEYS[random.nextInt(KEYS.length)];
                words.add(key);
                addValues(words, key);
            }
            if (random.nextInt(12) == 0) {
                words.remove(random.nextInt(words.size()));
            }
            if (random.nextInt(20) == 0 && !words.isEmpty()) {
                words.set(random.nextInt(words.size()), "odd");
            }
            return String.join(random.nextInt(9) == 0 ? " \n" : " ", words);
        }

        private void addValues(List<String> words, String key) {
            if (key.equals("name")) {
                int most = random.nextInt(9) == 0 ? 6 : 4;
                words.add("ABCDEFG".substring(0, 1 + random.nextInt(most)));
                return;
            }
            int count = "toe heel side court".contains(key) ? 3 : 1;
            for (int i = 0; i < count; i++) {
                words.add(Long.toString(randomValue(key)));
            }
        }

        private long randomValue(String key) {
            if (random.nextInt(40) == 0) {
                long[] edges = {0, 1, 2, 9998, 9999, 10000, 10001, 9999999, 10000000, 10000001};
                return edges[random.nextInt(edges.length)];
            }
            if (key.equals("part")) {
                return 10000 + random.nextInt(30000);
            }
            if (key.equals("via")) {
                return 10000 + 2 * random.nextInt(20000);
            }
            if (key.equals("round")) {
                return 1 + random.nextInt(random.nextBoolean() ? 20 : 3000);
            }
            return random.nextInt(random.nextBoolean() ? 10 : 6000);
        }

        private void tellBody() {
            int scale = random.nextInt(4) == 0 ? 40000000 : 200000;
            long inner = 1 + random.nextInt(scale);
            long outer = inner + random.nextInt(scale);
            long pitch = random.nextInt(Math.max(1, (int) (inner / 3)));
            tellSpan(0, outer - outer % 2, 5);
            tellSpan(1, inner, 2);
            tellSpan(2, random.nextInt((int) pitch + 1), 2);
            tellSpan(3, pitch - pitch % 2, 12);
            int[] counts = {4, 8, 8, 12, 16, 6, 10, 20, 32, 64, 2, 3, 66};
            tellSpan(4, counts[random.nextInt(counts.length)], 15);
            tellSpan(5, 1 + random.nextInt(8), 15);
            tellSpan(6, 1 + random.nextInt(8), 15);
            tellSpan(7, random.nextInt((int) pitch + 1), 2);
            for (int what = 8; what < 12; what++) {
                if (random.nextInt(3) != 0) {
                    tellSpan(what, random.nextInt((int) inner + 1), 3);
                }
            }
        }

        /** With two ends, one in so many times. */
        private void tellSpan(int what, long v, int oneIn) {
            if (random.nextInt(30) == 0) {
                return;
            }
            long low = random.nextInt(oneIn) == 0 ? v - random.nextInt(3) : v;
            long high = random.nextInt(oneIn) == 0 ? v + random.nextInt(3) : v;
            ask("span " + what + " " + low + " " + high, x -> x.span(what, low, high) ? 1 : 0);
        }

        private void makeOne() {
            int family = random.nextInt(Math.max(1, model.families.size()));
            int density = random.nextInt(3);
            ask("make " + family + " " + density, x -> x.make(family, density));
            if (model.text == null) {
                refusals++;
            } else {
                footprints++;
            }
        }

        private void copyByHand() {
            if (model.text == null || model.pads.isEmpty()) {
                return;
            }
            long[] pad = model.pads.get(random.nextInt(model.pads.size()));
            long more = random.nextInt(4) == 0 ? 1 : 0;
            ask("hand " + pad[0], x -> x.hand((int) pad[0], pad[1], pad[2] + more, pad[3], pad[4])
                    ? 1 : 0);
            ask("check", x -> x.check());
        }

        private void look() {
            int k = model.text == null ? 0 : random.nextInt(model.pads.size() + 1);
            int what = random.nextInt(8);
            int parts = model.text == null || k >= model.pads.size() ? 0 : model.paste(k, -1);
            int cell = parts == 0 ? what - 2 : random.nextInt(4 * parts + 2) - 1;
            int vias = model.text == null ? 0 : model.via(-1, 0);
            int via = random.nextInt(vias + 2) - 1;
            int unit = random.nextInt(model.text == null ? 9 : model.text.length() + 3) - 1;
            ask("pad " + k + " " + what, x -> x.pad(k, what));
            ask("court " + (what - 1), x -> x.court(what - 1));
            ask("mask " + k + " " + (what - 1), x -> x.mask(k, what - 1));
            ask("paste " + k + " -1", x -> x.paste(k, -1));
            ask("paste " + k + " " + cell, x -> x.paste(k, cell));
            ask("via -1", x -> x.via(-1, what));
            ask("via " + via, x -> x.via(via, what % 3));
            ask("name " + unit, x -> x.name(unit % 20));
            ask("text " + unit, x -> x.text(unit));
            ask("check", x -> x.check());
        }

        private void oddCall() {
            int a = oddNumber();
            int b = oddNumber();
            switch (random.nextInt(12)) {
                case 0:
                    ask("unit " + a, x -> x.unit(a) ? 1 : 0);
                    break;
                case 1:
                    ask("span " + a + " " + b, x -> x.span(a, b, 5) ? 1 : 0);
                    break;
                case 2:
                    ask("make " + a + " " + b, x -> x.make(a, b));
                    break;
                case 3:
                    ask("pad " + a + " " + b, x -> x.pad(a, b));
                    break;
                case 4:
                    ask("name " + a, x -> x.name(a));
                    break;
                case 5:
                    ask("court " + a, x -> x.court(a));
                    break;
                case 6:
                    ask("mask " + a + " " + b, x -> x.mask(a, b));
                    break;
                case 7:
                    ask("paste " + a + " " + b, x -> x.paste(a, b));
                    break;
                case 8:
                    ask("leave " + a, x -> x.leave(a) ? 1 : 0);
                    break;
                case 9:
                    ask("via " + a + " " + b, x -> x.via(a, b));
                    break;
                case 10:
                    ask("hand " + a + " " + b, x -> x.hand(a, b, 0, 1, 1) ? 1 : 0);
                    break;
                default:
                    ask("text " + a, x -> x.text(a));
                    break;
            }
        }

        private int oddNumber() {
            int[] odd = {0, 1, 2, 3, 4, -1, -2, 6, 7, 8, 11, 12, 64, 65, 80, 81, 100000000,
                -100000001, Integer.MAX_VALUE, Integer.MIN_VALUE};
            return odd[random.nextInt(odd.length)];
        }

        private void ask(String what, Call call) {
            if (calls >= CALLS) {
                return;
            }
            calls++;
            String got = answer(call, program);
            String due = answer(call, model);
            if (!got.equals(due)) {
                wrong++;
                System.out.println("seed " + seed + ", call " + calls + ": " + what + " answered "
                        + got + ", due is " + due);
            }
        }

        private static String answer(Call call, Face x) {
            try {
                return Long.toString(call.of(x));
            } catch (RuntimeException e) {
                return e.getClass().getName();
            }
        }
    }

    private static final class Program implements Face {
        private final FootprintRules x = new FootprintRules();

        public boolean unit(int u) {
            return x.unit(u);
        }

        public int family() {
            return x.family();
        }

        public boolean span(int what, long low, long high) {
            return x.span(what, low, high);
        }

        public int make(int family, int density) {
            return x.make(family, density);
        }

        public long pad(int k, int what) {
            return x.pad(k, what);
        }

        public int name(int i) {
            return x.name(i);
        }

        public long court(int side) {
            return x.court(side);
        }

        public int mask(int k, int what) {
            return x.mask(k, what);
        }

        public int paste(int k, int what) {
            return x.paste(k, what);
        }

        public boolean leave(int ball) {
            return x.leave(ball);
        }

        public int via(int k, int axis) {
            return x.via(k, axis);
        }

        public int check() {
            return x.check();
        }

        public boolean hand(int k, long left, long low, long w, long h) {
            return x.hand(k, left, low, w, h);
        }

        public int text(int i) {
            return x.text(i);
        }

        public void clear() {
            x.clear();
        }
    }

    private static final class Rules {
        String kind;
        final Map<String, long[]> values = new HashMap<>();
        String name;
    }

    private static final class Model implements Face {
        private String words = "";
        private final List<Rules> families = new ArrayList<>();
        private final Map<Integer, long[]> spans = new HashMap<>();
        private final TreeSet<Integer> left = new TreeSet<>();
        private final Map<Integer, long[]> hands = new HashMap<>();
        private List<long[]> pads = new ArrayList<>();
        private long[] court = {};
        private String name;
        private String text;
        private Rules of;
        private long[] thermal;

        public boolean unit(int u) {
            if (words.length() == 600 || u != 10 && (u < 32 || u > 126)) {
                return false;
            }
            words += (char) u;
            return true;
        }

        public int family() {
            if (families.size() == 8) {
                throw new IllegalStateException();
            }
            String trimmed = words.replace('\n', ' ').trim();
            String[] list = trimmed.isEmpty() ? new String[0] : trimmed.split(" +");
            words = "";
            Rules rules = new Rules();
            int wrongWord = read(list, rules);
            if (wrongWord >= 0) {
                return -1 - wrongWord;
            }
            families.add(rules);
            return families.size() - 1;
        }

        private static int read(String[] list, Rules rules) {
            if (list.length == 0 || !List.of(KINDS).contains(list[0])) {
                return 0;
            }
            rules.kind = list[0];
            int at = 1;
            while (at < list.length) {
                String key = list[at];
                if (!List.of(KEYS).contains(key) || rules.values.containsKey(key)
                        || key.equals("name") && rules.name != null) {
                    return at;
                }
                at++;
                int count = List.of("toe", "heel", "side", "court").contains(key) ? 3 : 1;
                long[] values = new long[3];
                for (int i = 0; i < count; i++, at++) {
                    if (at == list.length || !fits(key, list[at])) {
                        return at;
                    }
                    if (key.equals("name")) {
                        rules.name = list[at];
                    } else {
                        values[i] = Long.parseLong(list[at]);
                    }
                }
                if (!key.equals("name")) {
                    rules.values.put(key, values);
                }
            }
            for (String key : KEYS) {
                rules.values.putIfAbsent(key, new long[] {key.equals("round") ? 1 : 0, 0, 0});
            }
            if (rules.name == null) {
                rules.name = rules.kind.toUpperCase();
            }
            return -1;
        }

        private static boolean fits(String key, String word) {
            if (key.equals("name")) {
                return word.matches("[A-Z]{1,4}");
            }
            if (!word.matches("[0-9]{1,8}")) {
                return false;
            }
            long v = Long.parseLong(word);
            if (v > 10000000) {
                return false;
            }
            switch (key) {
                case "round":
                    return v >= 1;
                case "part":
                    return v == 0 || v >= 10000;
                case "via":
                    return (v == 0 || v >= 10000) && v % 2 == 0;
                default:
                    return true;
            }
        }

        public boolean span(int what, long low, long high) {
            if (what < 0 || what > 11) {
                throw new IndexOutOfBoundsException();
            }
            if (low < 0 || low > 100000000 || high < 0 || high > 100000000) {
                throw new IllegalArgumentException();
            }
            if (low > high) {
                return false;
            }
            spans.put(what, new long[] {low, high});
            return true;
        }

        public int make(int family, int density) {
            if (family < 0 || family >= families.size()) {
                throw new IndexOutOfBoundsException();
            }
            if (density < 0 || density > 2) {
                throw new IllegalArgumentException();
            }
            text = null;
            of = families.get(family);
            pads = padsOf(of, density);
            if (pads == null || pads.isEmpty()) {
                return -1;
            }
            layCourt(density);
            write(density);
            return pads.size();
        }

        private boolean told(int... whats) {
            for (int what : whats) {
                if (!spans.containsKey(what)) {
                    return false;
                }
            }
            return true;
        }

        private boolean exact(int... whats) {
            for (int what : whats) {
                if (spans.get(what)[0] != spans.get(what)[1]) {
                    return false;
                }
            }
            return true;
        }

        private long high(int what) {
            return spans.get(what)[1];
        }

        /** By steps, to be another way than the program's. */
        private static long up(long v, long m) {
            long at = v / m * m;
            while (at < v) {
                at += m;
            }
            while (at - m >= v) {
                at -= m;
            }
            return at;
        }

        private static long down(long v, long m) {
            return -up(-v, m);
        }

        private List<long[]> padsOf(Rules f, int density) {
            long t = f.values.get("toe")[density];
            long h = f.values.get("heel")[density];
            long s = f.values.get("side")[density];
            long n = f.values.get("round")[0];
            thermal = null;
            switch (f.kind) {
                case "chip":
                    return told(0, 1, 2) ? flat(t, h, s, n, 1, 2) : null;
                case "wing":
                case "less":
                    if (!told(0, 1, 2, 3, 4) || !exact(3, 4)) {
                        return null;
                    }
                    int sides = f.kind.equals("wing") ? 2 : 4;
                    if (high(4) % sides != 0 || high(4) < sides || high(4) > 64) {
                        return null;
                    }
                    return flat(t, h, s, n, (int) high(4) / sides, sides);
                case "ball":
                    return told(3, 5, 6, 7) && exact(3, 5, 6) ? balls(s, n) : null;
                default:
                    return told(0, 2, 3, 4) && exact(0, 3, 4) ? holes(h, s, n) : null;
            }
        }

        private List<long[]> flat(long t, long h, long s, long n, int m, int sides) {
            boolean isChip = of.kind.equals("chip");
            long z = up(high(0) + 2 * t, 2 * n);
            long g = down(spans.get(1)[0] - 2 * h, 2 * n);
            long x = up(high(2) + 2 * s, 2 * n);
            long pitch = isChip ? 0 : high(3);
            if (g <= 0 || z <= g || x <= 0) {
                return null;
            }
            if (!isChip && (pitch <= 0 || pitch % 2 == 1 || x >= pitch)) {
                return null;
            }
            if (sides == 4 && (m - 1) * pitch + x > g) {
                return null;
            }
            List<long[]> made = new ArrayList<>();
            long first = (m - 1) * pitch / 2;
            long deep = (z - g) / 2;
            for (int i = 0; i < m; i++) {
                addAround(made, -z / 2 + deep / 2.0, first - i * pitch, deep, x, 0);
            }
            for (int i = 0; i < m && sides == 4; i++) {
                addAround(made, -first + i * pitch, -z / 2 + deep / 2.0, x, deep, 0);
            }
            for (int i = 0; i < m; i++) {
                addAround(made, g / 2 + deep / 2.0, -first + i * pitch, deep, x, 0);
            }
            for (int i = 0; i < m && sides == 4; i++) {
                addAround(made, first - i * pitch, g / 2 + deep / 2.0, x, deep, 0);
            }
            return sides == 4 && told(8, 9) ? withThermal(made, g, n) : made;
        }

        private List<long[]> withThermal(List<long[]> made, long g, long n) {
            long w = up(high(8), 2 * n);
            long h = up(high(9), 2 * n);
            if (w <= 0 || h <= 0 || w >= g || h >= g) {
                return null;
            }
            addAround(made, 0, 0, w, h, 0);
            thermal = made.get(made.size() - 1);
            return made;
        }

        private List<long[]> balls(long s, long n) {
            long pitch = high(3);
            long d = up(high(7) + 2 * s, 2 * n);
            long rows = high(5);
            long columns = high(6);
            if (pitch <= 0 || pitch % 2 == 1 || d <= 0 || d >= pitch || rows < 1 || rows > 8
                    || columns < 1 || columns > 8) {
                return null;
            }
            List<long[]> made = new ArrayList<>();
            for (int i = 0; i < rows * columns; i++) {
                if (!left.contains(i + 1)) {
                    double x = (i % columns - (columns - 1) / 2.0) * pitch;
                    double y = ((rows - 1) / 2.0 - i / columns) * pitch;
                    addAround(made, x, y, d, d, 0);
                    made.get(made.size() - 1)[0] = i + 1;
                    made.get(made.size() - 1)[5] = 1;
                }
            }
            return made;
        }

        private List<long[]> holes(long h, long s, long n) {
            long count = high(4);
            long outer = high(0);
            long pitch = high(3);
            long d = up(high(2) + 2 * h, 2 * n);
            long w = d + 2 * up(s, n);
            if (count < 2 || count > 64 || count % 2 == 1 || outer <= 0 || outer % 2 == 1
                    || pitch <= 0 || pitch % 2 == 1 || d <= 0 || w >= pitch || w >= outer) {
                return null;
            }
            List<long[]> made = new ArrayList<>();
            int m = (int) count / 2;
            for (int i = 0; i < count; i++) {
                double y = (i < m ? (m - 1) / 2.0 - i : i - m - (m - 1) / 2.0) * pitch;
                addAround(made, (i < m ? -1 : 1) * outer / 2.0, y, w, w, d);
            }
            return made;
        }

        /** Numbers so far below 2^53 are exact in doubles, halves too. */
        private static void addAround(List<long[]> made, double x, double y, long w, long h,
                long hole) {
            made.add(new long[] {made.size() + 1, (long) (x - w / 2.0), (long) (y - h / 2.0), w, h,
                hole > 0 ? 1 : 0, hole});
        }

        private void layCourt(int density) {
            List<long[]> all = new ArrayList<>(pads);
            long n = of.values.get("round")[0];
            if (told(10, 11)) {
                addAround(all, 0, 0, up(high(10), 2 * n), up(high(11), 2 * n), 0);
            }
            long c = of.values.get("court")[density];
            court = new long[] {
                down(all.stream().mapToLong(p -> p[1]).min().getAsLong() - c, n),
                down(all.stream().mapToLong(p -> p[2]).min().getAsLong() - c, n),
                up(all.stream().mapToLong(p -> p[1] + p[3]).max().getAsLong() + c, n),
                up(all.stream().mapToLong(p -> p[2] + p[4]).max().getAsLong() + c, n)};
        }

        private void write(int density) {
            name = of.name + pads.size() + "X" + (told(0) ? high(0) / 1000 : 0)
                    + "LNM".charAt(density);
            text = name + "\n";
            for (long[] p : pads) {
                text += p[0] + " " + p[1] + " " + p[2] + " " + p[3] + " " + p[4] + " " + p[5] + " "
                        + p[6] + "\n";
            }
            text += "court " + court[0] + " " + court[1] + " " + court[2] + " " + court[3] + "\n";
        }

        private void needs(boolean isThere) {
            if (text == null) {
                throw new IllegalStateException();
            }
            if (!isThere) {
                throw new IndexOutOfBoundsException();
            }
        }

        private boolean isPad(int k) {
            return text == null || k >= 0 && k < pads.size();
        }

        public long pad(int k, int what) {
            needs(isPad(k) && what >= 0 && what < 7);
            return pads.get(k)[what];
        }

        public int name(int i) {
            needs(i >= 0);
            return i < name.length() ? name.charAt(i) : -1;
        }

        public long court(int side) {
            needs(side >= 0 && side < 4);
            return court[side];
        }

        public int mask(int k, int what) {
            needs(isPad(k) && what >= 0 && what < 4);
            long m = of.values.get("mask")[0];
            long[] p = pads.get(k);
            long[] box = {p[1] - m, p[2] - m, p[3] + 2 * m, p[4] + 2 * m};
            return (int) box[what];
        }

        public int paste(int k, int what) {
            needs(isPad(k));
            long[] p = pads.get(k);
            long less = of.values.get("paste")[0];
            long part = of.values.get("part")[0];
            long gap = of.values.get("gap")[0];
            boolean cuts = p[5] == 0 && part > 0;
            long[] across = cut(p[1] + less, p[3] - 2 * less, cuts ? part : Long.MAX_VALUE, gap);
            long[] upwards = cut(p[2] + less, p[4] - 2 * less, cuts ? part : Long.MAX_VALUE, gap);
            boolean none = p[6] > 0 || across[1] <= 0 || upwards[1] <= 0;
            long parts = none ? 0 : across[0] * upwards[0];
            if (what == -1) {
                return (int) parts;
            }
            needs(what >= 0 && what / 4 < parts);
            long column = what / 4 % across[0];
            long row = what / 4 / across[0];
            long[] box = {across[2] + column * (across[1] + gap),
                upwards[2] + row * (upwards[1] + gap), across[1], upwards[1]};
            return (int) box[what % 4];
        }

        /** How many parts, how long each, where the first one starts. */
        private static long[] cut(long from, long length, long part, long gap) {
            long count = 1;
            while (Math.floorDiv(length - (count - 1) * gap, count) > part) {
                count++;
            }
            long room = length - (count - 1) * gap;
            long each = Math.floorDiv(room, count);
            return new long[] {count, each, from + (room - each * count) / 2};
        }

        public boolean leave(int ball) {
            if (ball < 1 || ball > 64) {
                throw new IllegalArgumentException();
            }
            if (left.remove(ball)) {
                return false;
            }
            left.add(ball);
            return true;
        }

        public int via(int k, int axis) {
            needs(true);
            long apart = of.values.get("via")[0];
            boolean has = apart > 0 && thermal != null;
            int columns = has ? (int) (thermal[3] / apart) : 0;
            int rows = has ? (int) (thermal[4] / apart) : 0;
            if (k == -1) {
                return columns * rows;
            }
            needs(k >= 0 && k < columns * rows && axis >= 0 && axis < 2);
            double place = axis == 0 ? k % columns - (columns - 1) / 2.0
                    : k / columns - (rows - 1) / 2.0;
            return (int) (place * apart);
        }

        public int check() {
            needs(true);
            TreeSet<Integer> numbers = new TreeSet<>(hands.keySet());
            int differing = 0;
            for (long[] p : pads) {
                long[] hand = hands.get((int) p[0]);
                numbers.remove((int) p[0]);
                if (hand == null || hand[0] != p[1] || hand[1] != p[2] || hand[2] != p[3]
                        || hand[3] != p[4]) {
                    differing++;
                }
            }
            return differing + numbers.size();
        }

        public boolean hand(int k, long x, long y, long w, long h) {
            if (k < 1 || k > 80) {
                throw new IndexOutOfBoundsException();
            }
            if (Math.abs(x) > 100000000 || Math.abs(y) > 100000000 || w < 1 || w > 100000000
                    || h < 1 || h > 100000000) {
                throw new IllegalArgumentException();
            }
            return hands.put(k, new long[] {x, y, w, h}) == null;
        }

        public int text(int i) {
            needs(i >= 0);
            return i < text.length() ? text.charAt(i) : -1;
        }

        public void clear() {
            words = "";
            spans.clear();
            hands.clear();
            left.clear();
            text = null;
        }
    }
}
