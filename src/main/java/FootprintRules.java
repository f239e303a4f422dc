/**
 * Footprints made by families of rules from spans of bodies. All lengths are whole nanometres.
 *
 * <p>Every row that a call needs is made in a constructor and used again, so that a long run of
 * calls makes nothing new.
 */
public final class FootprintRules {
    public static final int NONE = -1;

    private static final int MOST_UNITS = 600;
    private static final int MOST_FAMILIES = 8;
    private static final int DENSITIES = 3;
    private static final int MOST_COUNT = 64;
    private static final int MOST_LINES = 8;
    private static final int MOST_BALLS = 64;
    private static final int MOST_HAND = 80;
    private static final int MOST_LETTERS = 4;
    private static final int MOST_DIGITS = 8;
    private static final int MOST_VALUE = 10000000;
    private static final int LEAST_PART = 10000;
    private static final long LONGEST = 100000000L;

    // The pads of less with all of COUNT, and its THERMAL one.
    private static final int MOST_PADS = 65;
    // 15 for the name's line, 65 pads of at most 59 each, 54 for the court's line: 3904.
    private static final int MOST_TEXT = 4096;

    // The spans.
    private static final int OUTER = 0;
    private static final int INNER = 1;
    private static final int LEAD = 2;
    private static final int PITCH = 3;
    private static final int COUNT = 4;
    private static final int ROWS = 5;
    private static final int COLUMNS = 6;
    private static final int BALL = 7;
    private static final int THERMAL_LENGTH = 8;
    private static final int THERMAL_WIDTH = 9;
    private static final int BODY_LENGTH = 10;
    private static final int BODY_WIDTH = 11;
    private static final int SPANS = 12;

    // What is told of a pad.
    private static final int NUMBER = 0;
    private static final int LEFT = 1;
    private static final int LOW = 2;
    private static final int WIDTH = 3;
    private static final int HEIGHT = 4;
    private static final int ROUND = 5;
    private static final int HOLE = 6;
    private static final int PAD_CELLS = 7;

    // A rectangle's left and low side, width, height; or its four sides.
    private static final int BOX_CELLS = 4;

    private static final Kind[] KINDS = Kind.values();
    private static final Key[] KEYS = Key.values();

    private final FamilyReader reader = new FamilyReader();
    private final Family[] families = new Family[MOST_FAMILIES];
    private int familyCount;
    private final HandMade handMade = new HandMade();
    private final Maker maker = new Maker();
    private final Footprint print = maker.print;

    public FootprintRules() {
        for (int i = 0; i < MOST_FAMILIES; i++) {
            families[i] = new Family();
        }
    }

    public boolean unit(int u) {
        return reader.words.add(u);
    }

    public int family() throws IllegalStateException {
        if (familyCount < 0 || familyCount >= MOST_FAMILIES) {
            throw new IllegalStateException("no room for a family");
        }
        int wrong = reader.read(families[familyCount]);
        reader.words.drop();
        if (wrong != NONE) {
            return -1 - wrong;
        }
        familyCount++;
        return familyCount - 1;
    }

    public boolean span(int what, long low, long high)
            throws IndexOutOfBoundsException, IllegalArgumentException {
        if (what < 0 || what >= SPANS) {
            throw new IndexOutOfBoundsException("no such span");
        }
        if (!isWithin(low, 0, LONGEST) || !isWithin(high, 0, LONGEST)) {
            throw new IllegalArgumentException("an end is out of range");
        }
        return maker.spans.tell(what, low, high);
    }

    public int make(int family, int density)
            throws IndexOutOfBoundsException, IllegalArgumentException {
        if (family < 0 || family >= familyCount || family >= MOST_FAMILIES) {
            throw new IndexOutOfBoundsException("no such family");
        }
        if (density < 0 || density >= DENSITIES) {
            throw new IllegalArgumentException("no such density");
        }
        return maker.build(families[family], density) ? print.count : NONE;
    }

    public long pad(int k, int what) throws IllegalStateException, IndexOutOfBoundsException {
        needPad(k);
        needWithin(what, PAD_CELLS);
        return print.cell(k, what);
    }

    public int name(int i) throws IllegalStateException, IndexOutOfBoundsException {
        needFootprint();
        needNotBelowZero(i);
        return print.nameUnit(i);
    }

    public long court(int side) throws IllegalStateException, IndexOutOfBoundsException {
        needFootprint();
        needWithin(side, BOX_CELLS);
        return print.yard[side];
    }

    public int mask(int k, int what) throws IllegalStateException, IndexOutOfBoundsException {
        needPad(k);
        needWithin(what, BOX_CELLS);
        return (int) print.maskCell(k, what);
    }

    public int paste(int k, int what) throws IllegalStateException, IndexOutOfBoundsException {
        needPad(k);
        int parts = print.cutPaste(k);
        if (what == NONE) {
            return parts;
        }
        if (what < 0 || what / BOX_CELLS >= parts) {
            throw new IndexOutOfBoundsException("no such part");
        }
        return (int) print.pasteCell(what / BOX_CELLS, what % BOX_CELLS);
    }

    public boolean leave(int ball) throws IllegalArgumentException {
        if (ball < 1 || ball > MOST_BALLS) {
            throw new IllegalArgumentException("no such ball");
        }
        maker.leftOut[ball] = !maker.leftOut[ball];
        return maker.leftOut[ball];
    }

    public int via(int k, int axis) throws IllegalStateException, IndexOutOfBoundsException {
        needFootprint();
        int columns = print.viasInto(WIDTH);
        int vias = columns * print.viasInto(HEIGHT);
        if (k == NONE) {
            return vias;
        }
        needWithin(k, vias);
        needWithin(axis, 2);
        if (columns <= 0) {
            return 0;
        }
        return axis == 0
                ? print.viaMiddle(k % columns, WIDTH)
                : print.viaMiddle(k / columns, HEIGHT);
    }

    public int check() throws IllegalStateException {
        needFootprint();
        return handMade.differences(print);
    }

    public boolean hand(int k, long x, long y, long w, long h)
            throws IndexOutOfBoundsException, IllegalArgumentException {
        if (k < 1 || k > MOST_HAND) {
            throw new IndexOutOfBoundsException("no such number");
        }
        if (!isWithin(x, -LONGEST, LONGEST) || !isWithin(y, -LONGEST, LONGEST)) {
            throw new IllegalArgumentException("a side is out of range");
        }
        if (!isWithin(w, 1, LONGEST) || !isWithin(h, 1, LONGEST)) {
            throw new IllegalArgumentException("a size is out of range");
        }
        return handMade.put(k, x, y, w, h);
    }

    public int text(int i) throws IllegalStateException, IndexOutOfBoundsException {
        needFootprint();
        needNotBelowZero(i);
        return print.textUnit(i);
    }

    public void clear() {
        reader.words.drop();
        maker.forget();
        handMade.forget();
    }

    private void needFootprint() {
        if (!print.atHand) {
            throw new IllegalStateException("no footprint is at hand");
        }
    }

    private void needPad(int k) {
        needFootprint();
        needWithin(k, print.count);
    }

    private static void needWithin(int index, int length) {
        if (index < 0 || index >= length) {
            throw new IndexOutOfBoundsException("there is no such one");
        }
    }

    private static void needNotBelowZero(int index) {
        if (index < 0) {
            throw new IndexOutOfBoundsException("below 0");
        }
    }

    private static boolean isWithin(long v, long least, long most) {
        return v >= least && v <= most;
    }

    /** UP of the document. */
    private static long up(long v, long m) {
        return m <= 0 ? v : v + Math.floorMod(-v, m);
    }

    /** DOWN of the document. */
    private static long down(long v, long m) {
        return m <= 0 ? v : v - Math.floorMod(v, m);
    }

    /** The middle of the i-th of m things that stand apart by a step around 0; the step is even. */
    private static long middle(long i, long m, long step) {
        return (2 * i - (m - 1)) * (step / 2);
    }

    /** The kinds, with the spans that must be told and those that must be EXACT, as bits. */
    private enum Kind {
        CHIP("chip", "CHIP", 1 << OUTER | 1 << INNER | 1 << LEAD, 0),
        WING("wing", "WING", 1 << OUTER | 1 << INNER | 1 << LEAD | 1 << PITCH | 1 << COUNT,
                1 << PITCH | 1 << COUNT),
        LESS("less", "LESS", 1 << OUTER | 1 << INNER | 1 << LEAD | 1 << PITCH | 1 << COUNT,
                1 << PITCH | 1 << COUNT),
        BALL_GRID("ball", "BALL", 1 << PITCH | 1 << ROWS | 1 << COLUMNS | 1 << BALL,
                1 << PITCH | 1 << ROWS | 1 << COLUMNS),
        HOLES("hole", "HOLE", 1 << OUTER | 1 << LEAD | 1 << PITCH | 1 << COUNT,
                1 << OUTER | 1 << PITCH | 1 << COUNT);

        private final String word;
        private final String capitals;
        private final int needed;
        private final int exact;

        Kind(String word, String capitals, int needed, int exact) {
            this.word = word;
            this.capitals = capitals;
            this.needed = needed;
            this.exact = exact;
        }
    }

    /**
     * The keys, with where a family keeps their values, how many, and the least above 0. "0, or
     * 10,000 at least" is taken to be said of part and via alone: it keeps parts and vias few.
     */
    private enum Key {
        TOE("toe", 0, 3, 0),
        HEEL("heel", 3, 3, 0),
        SIDE("side", 6, 3, 0),
        COURT("court", 9, 3, 0),
        ROUNDING("round", 12, 1, 1),
        MASK("mask", 13, 1, 0),
        PASTE("paste", 14, 1, 0),
        GAP("gap", 15, 1, 0),
        PART("part", 16, 1, LEAST_PART),
        VIA("via", 17, 1, LEAST_PART),
        NAME("name", 18, 0, 0);

        private final String word;
        private final int first;
        private final int many;
        private final int least;

        Key(String word, int first, int many, int least) {
            this.word = word;
            this.first = first;
            this.many = many;
            this.least = least;
        }

        private boolean takes(int v) {
            if (v == 0) {
                return this != ROUNDING;
            }
            return v >= least && v <= MOST_VALUE && (this != VIA || v % 2 == 0);
        }
    }

    /** The characters collected so far, and a cursor that goes over their words. */
    private static final class Words {
        private final char[] units = new char[MOST_UNITS];
        private int length;
        private int start;
        private int end;
        private int place;

        private boolean add(int u) {
            if (u != '\n' && (u < ' ' || u > '~') || length < 0 || length >= MOST_UNITS) {
                return false;
            }
            units[length] = (char) u;
            length++;
            return true;
        }

        private void drop() {
            length = 0;
        }

        private void rewind() {
            end = 0;
            place = -1;
        }

        /**
         * Goes to the next word: whether there is one. Its place counts on even when there is
         * none, so that it tells how many there are then.
         */
        private boolean next() {
            start = end;
            while (start >= 0 && start < length && start < MOST_UNITS && isBreak(units[start])) {
                start++;
            }
            end = start;
            while (end >= 0 && end < length && end < MOST_UNITS && !isBreak(units[end])) {
                end++;
            }
            place++;
            return end > start;
        }

        private static boolean isBreak(char c) {
            return c == ' ' || c == '\n';
        }

        private int size() {
            return end - start;
        }

        private char at(int i) {
            int index = start + i;
            return index >= 0 && index < MOST_UNITS ? units[index] : ' ';
        }

        private boolean are(String word) {
            if (size() != word.length()) {
                return false;
            }
            for (int i = 0; i < word.length(); i++) {
                if (at(i) != word.charAt(i)) {
                    return false;
                }
            }
            return true;
        }

        private boolean areWithin(char least, char most) {
            for (int i = 0; i < size(); i++) {
                if (at(i) < least || at(i) > most) {
                    return false;
                }
            }
            return true;
        }

        /** The word as a number; NONE when it is none of one to eight digits. */
        private int value() {
            if (size() < 1 || size() > MOST_DIGITS || !areWithin('0', '9')) {
                return NONE;
            }
            int v = 0;
            for (int i = 0; i < size(); i++) {
                v = v * 10 + (at(i) - '0');
            }
            return v;
        }
    }

    /** Reads a family of the words. */
    private static final class FamilyReader {
        private final Words words = new Words();
        private int toldKeys;

        /** NONE, or the place of the word that is wrong or lacking. */
        private int read(Family family) {
            words.rewind();
            toldKeys = 0;
            if (!words.next() || !readKind(family)) {
                return words.place;
            }
            for (int i = 0; i < MOST_UNITS && words.next(); i++) {
                if (!readKey(family)) {
                    return words.place;
                }
            }
            return NONE;
        }

        private boolean readKind(Family family) {
            for (int i = 0; i < KINDS.length; i++) {
                if (words.are(KINDS[i].word)) {
                    family.begin(KINDS[i]);
                    return true;
                }
            }
            return false;
        }

        private boolean readKey(Family family) {
            for (int i = 0; i < KEYS.length; i++) {
                if (words.are(KEYS[i].word)) {
                    boolean again = (toldKeys & 1 << i) != 0;
                    toldKeys |= 1 << i;
                    return !again && readValues(family, KEYS[i]);
                }
            }
            return false;
        }

        private boolean readValues(Family family, Key key) {
            if (key == Key.NAME) {
                return words.next() && readLetters(family);
            }
            for (int i = 0; i < key.many; i++) {
                if (!words.next() || !key.takes(words.value())) {
                    return false;
                }
                family.put(key, i, words.value());
            }
            return true;
        }

        private boolean readLetters(Family family) {
            if (words.size() > MOST_LETTERS || !words.areWithin('A', 'Z')) {
                return false;
            }
            family.letterCount = 0;
            for (int i = 0; i < words.size(); i++) {
                family.addLetter(words.at(i));
            }
            return true;
        }
    }

    /** A family's rules; nothing changes them after they have been read. */
    private static final class Family {
        private final int[] values = new int[18];
        private final char[] letters = new char[MOST_LETTERS];
        private int letterCount;
        private Kind kind = Kind.CHIP;

        private void begin(Kind newKind) {
            kind = newKind;
            for (int i = 0; i < values.length; i++) {
                values[i] = 0;
            }
            put(Key.ROUNDING, 0, 1);
            letterCount = 0;
            for (int i = 0; i < newKind.capitals.length(); i++) {
                addLetter(newKind.capitals.charAt(i));
            }
        }

        private void addLetter(char c) {
            if (letterCount >= 0 && letterCount < MOST_LETTERS) {
                letters[letterCount] = c;
                letterCount++;
            }
        }

        private void put(Key key, int i, int v) {
            int slot = key.first + i;
            if (slot >= 0 && slot < values.length) {
                values[slot] = v;
            }
        }

        private long of(Key key) {
            return ofDensity(key, 0);
        }

        private long ofDensity(Key key, int density) {
            int slot = key.first + density;
            return slot >= 0 && slot < values.length ? values[slot] : 0;
        }
    }

    /** The spans told so far. */
    private static final class Spans {
        private final long[] lows = new long[SPANS];
        private final long[] highs = new long[SPANS];
        private int toldBits;
        private int exactBits;

        private boolean tell(int what, long low, long high) {
            if (low > high || what < 0 || what >= SPANS) {
                return false;
            }
            lows[what] = low;
            highs[what] = high;
            toldBits |= 1 << what;
            exactBits = low == high ? exactBits | 1 << what : exactBits & ~(1 << what);
            return true;
        }

        private void forget() {
            toldBits = 0;
            exactBits = 0;
        }

        private boolean areTold(int bits) {
            return (toldBits & bits) == bits;
        }

        private boolean areExact(int bits) {
            return (exactBits & bits) == bits;
        }

        private long lowOf(int what) {
            return isTold(what) ? lows[what] : 0;
        }

        private long highOf(int what) {
            return isTold(what) ? highs[what] : 0;
        }

        private boolean isTold(int what) {
            return what >= 0 && what < SPANS && areTold(1 << what);
        }
    }

    /** Makes the footprint at hand of a family and the spans. */
    private static final class Maker {
        private final Spans spans = new Spans();
        private final boolean[] leftOut = new boolean[MOST_BALLS + 1];
        private final Footprint print = new Footprint();

        private long rounding;
        private long toe;
        private long heel;
        private long side;
        private long pitch;
        // Z, G and X of the document, and d of hole.
        private long outer;
        private long inner;
        private long across;
        private long hole;

        private void forget() {
            spans.forget();
            print.atHand = false;
            for (int ball = 0; ball < leftOut.length; ball++) {
                leftOut[ball] = false;
            }
        }

        /** Whether everything is as said; there is no footprint at hand otherwise. */
        private boolean build(Family family, int density) {
            Kind kind = family.kind;
            print.begin(family, density, spans.highOf(OUTER));
            if (!spans.areTold(kind.needed) || !spans.areExact(kind.exact)) {
                return false;
            }
            rounding = family.of(Key.ROUNDING);
            toe = family.ofDensity(Key.TOE, density);
            heel = family.ofDensity(Key.HEEL, density);
            side = family.ofDensity(Key.SIDE, density);
            pitch = spans.highOf(PITCH);
            boolean made = kind == Kind.BALL_GRID ? makeGrid() : makeSides(kind);
            if (made && print.count > 0) {
                print.layYard(bodyOf(BODY_LENGTH), bodyOf(BODY_WIDTH), hasBody());
                print.atHand = true;
            }
            return print.atHand;
        }

        private long upTwice(long v) {
            return up(v, 2 * rounding);
        }

        private boolean hasBody() {
            return spans.isTold(BODY_LENGTH) && spans.isTold(BODY_WIDTH);
        }

        private long bodyOf(int what) {
            return upTwice(spans.highOf(what));
        }

        private static boolean isEvenAboveZero(long v) {
            return v > 0 && v % 2 == 0;
        }

        private boolean makeGrid() {
            long rows = spans.highOf(ROWS);
            long columns = spans.highOf(COLUMNS);
            long wide = upTwice(spans.highOf(BALL) + 2 * side);
            if (!isEvenAboveZero(pitch) || wide <= 0 || wide >= pitch
                    || !isWithin(rows, 1, MOST_LINES) || !isWithin(columns, 1, MOST_LINES)) {
                return false;
            }
            int number = 0;
            for (int row = 0; row < rows; row++) {
                for (int column = 0; column < columns; column++) {
                    number++;
                    if (number < leftOut.length && !leftOut[number]) {
                        long x = middle(column, columns, pitch) - wide / 2;
                        long y = -middle(row, rows, pitch) - wide / 2;
                        print.add(number, x, y, wide, wide, true, 0);
                    }
                }
            }
            return true;
        }

        private boolean makeSides(Kind kind) {
            boolean sized = kind == Kind.HOLES ? sizeHoles() : sizeFlat();
            if (!sized || !rowsFit(kind)) {
                return false;
            }
            int each = padsOfSide(kind);
            if (kind == Kind.LESS) {
                addUpright(each, true);
                addLying(each, false);
                addUpright(each, false);
                addLying(each, true);
                return addThermal();
            }
            addUpright(each, true);
            addUpright(each, false);
            return true;
        }

        private boolean sizeFlat() {
            outer = upTwice(spans.highOf(OUTER) + 2 * toe);
            inner = down(spans.lowOf(INNER) - 2 * heel, 2 * rounding);
            across = upTwice(spans.highOf(LEAD) + 2 * side);
            hole = 0;
            return across > 0;
        }

        /** Holes stand as wing's pads do between these: their middles are OUTER apart then. */
        private boolean sizeHoles() {
            long apart = spans.highOf(OUTER);
            hole = upTwice(spans.highOf(LEAD) + 2 * heel);
            across = hole + 2 * up(side, rounding);
            outer = apart + across;
            inner = apart - across;
            return hole > 0 && isEvenAboveZero(apart);
        }

        private boolean rowsFit(Kind kind) {
            if (inner <= 0 || outer <= inner) {
                return false;
            }
            if (kind == Kind.CHIP) {
                return true;
            }
            long count = spans.highOf(COUNT);
            int by = kind == Kind.LESS ? 4 : 2;
            if (!isWithin(count, by, MOST_COUNT) || count % by != 0) {
                return false;
            }
            if (!isEvenAboveZero(pitch) || across >= pitch) {
                return false;
            }
            return kind != Kind.LESS || (count / 4 - 1) * pitch + across <= inner;
        }

        private int padsOfSide(Kind kind) {
            if (kind == Kind.CHIP) {
                return 1;
            }
            return (int) (spans.highOf(COUNT) / (kind == Kind.LESS ? 4 : 2));
        }

        /** LEFT pads, downwards, or RIGHT ones, upwards. */
        private void addUpright(int each, boolean left) {
            long x = left ? -outer / 2 : inner / 2;
            for (int i = 0; i < each; i++) {
                long y = middle(left ? each - 1 - i : i, each, pitch) - across / 2;
                print.add(print.count + 1, x, y, (outer - inner) / 2, across, hole > 0, hole);
            }
        }

        /** HIGH pads, to the left, or LOW ones, to the right. */
        private void addLying(int each, boolean high) {
            long y = high ? inner / 2 : -outer / 2;
            for (int i = 0; i < each; i++) {
                long x = middle(high ? each - 1 - i : i, each, pitch) - across / 2;
                print.add(print.count + 1, x, y, across, (outer - inner) / 2, false, 0);
            }
        }

        private boolean addThermal() {
            if (!spans.isTold(THERMAL_LENGTH) || !spans.isTold(THERMAL_WIDTH)) {
                return true;
            }
            long wide = upTwice(spans.highOf(THERMAL_LENGTH));
            long high = upTwice(spans.highOf(THERMAL_WIDTH));
            if (wide <= 0 || wide >= inner || high <= 0 || high >= inner) {
                return false;
            }
            print.thermal = print.count;
            print.add(print.count + 1, -wide / 2, -high / 2, wide, high, false, 0);
            return true;
        }
    }

    /** A length cut into parts with gaps between. */
    private static final class Cut {
        private long parts;
        private long size;
        private long ahead;
        private long gap;

        private void whole(long length) {
            parts = 1;
            size = length;
            ahead = 0;
            gap = 0;
        }

        /**
         * A number p of parts will do when (length - (p - 1) gap) / p is below most + 1, which is
         * to say that length + gap is below p (most + 1 + gap).
         */
        private void split(long length, long most, long newGap) {
            whole(length);
            long each = most + 1 + newGap;
            if (length <= most || each <= 0) {
                return;
            }
            long needed = (length + newGap) / each + 1;
            if (needed <= 0) {
                return;
            }
            parts = needed;
            gap = newGap;
            long room = length - (parts - 1) * gap;
            size = Math.floorDiv(room, needed);
            ahead = (room - size * parts) / 2;
        }

        private long start(long i) {
            return ahead + i * (size + gap);
        }
    }

    /** The footprint at hand. */
    private static final class Footprint {
        private boolean atHand;
        private final long[] cells = new long[MOST_PADS * PAD_CELLS];
        private int count;
        private int thermal;
        private Family family = new Family();
        private int density;
        private long outerHigh;
        private final long[] yard = new long[BOX_CELLS];

        private final Cut columns = new Cut();
        private final Cut rows = new Cut();
        private long pasteLeft;
        private long pasteLow;

        private final Line line = new Line();
        private int nameLength;
        private boolean isWritten;

        private void begin(Family newFamily, int newDensity, long newOuterHigh) {
            atHand = false;
            isWritten = false;
            count = 0;
            thermal = NONE;
            family = newFamily;
            density = newDensity;
            outerHigh = newOuterHigh;
        }

        private void add(int number, long left, long low, long width, long height,
                boolean isRound, long hole) {
            if (count < 0 || count >= MOST_PADS) {
                return;
            }
            int at = count * PAD_CELLS;
            cells[at + NUMBER] = number;
            cells[at + LEFT] = left;
            cells[at + LOW] = low;
            cells[at + WIDTH] = width;
            cells[at + HEIGHT] = height;
            cells[at + ROUND] = isRound ? 1 : 0;
            cells[at + HOLE] = hole;
            count++;
        }

        private long cell(int k, int what) {
            if (k < 0 || k >= MOST_PADS || what < 0 || what >= PAD_CELLS) {
                return 0;
            }
            return cells[k * PAD_CELLS + what];
        }

        private void layYard(long bodyWidth, long bodyHeight, boolean hasBody) {
            long left = cell(0, LEFT);
            long low = cell(0, LOW);
            long right = left + cell(0, WIDTH);
            long high = low + cell(0, HEIGHT);
            for (int k = 1; k < count; k++) {
                left = Math.min(left, cell(k, LEFT));
                low = Math.min(low, cell(k, LOW));
                right = Math.max(right, cell(k, LEFT) + cell(k, WIDTH));
                high = Math.max(high, cell(k, LOW) + cell(k, HEIGHT));
            }
            if (hasBody) {
                left = Math.min(left, -bodyWidth / 2);
                low = Math.min(low, -bodyHeight / 2);
                right = Math.max(right, bodyWidth / 2);
                high = Math.max(high, bodyHeight / 2);
            }
            long more = family.ofDensity(Key.COURT, density);
            long rounding = family.of(Key.ROUNDING);
            yard[0] = down(left - more, rounding);
            yard[1] = down(low - more, rounding);
            yard[2] = up(right + more, rounding);
            yard[3] = up(high + more, rounding);
        }

        private long maskCell(int k, int what) {
            long more = family.of(Key.MASK);
            long plain = cell(k, LEFT + what);
            return what < 2 ? plain - more : plain + 2 * more;
        }

        /** Lays out the paste of a pad: how many parts. */
        private int cutPaste(int k) {
            long less = family.of(Key.PASTE);
            long part = family.of(Key.PART);
            long width = cell(k, WIDTH) - 2 * less;
            long height = cell(k, HEIGHT) - 2 * less;
            pasteLeft = cell(k, LEFT) + less;
            pasteLow = cell(k, LOW) + less;
            if (part > 0 && cell(k, ROUND) == 0) {
                columns.split(width, part, family.of(Key.GAP));
                rows.split(height, part, family.of(Key.GAP));
            } else {
                columns.whole(width);
                rows.whole(height);
            }
            if (cell(k, HOLE) > 0 || columns.size <= 0 || rows.size <= 0) {
                return 0;
            }
            return (int) (columns.parts * rows.parts);
        }

        /** Of the paste that was laid out last. */
        private long pasteCell(int part, int what) {
            if (columns.parts <= 0) {
                return 0;
            }
            switch (what) {
                case 0:
                    return pasteLeft + columns.start(part % columns.parts);
                case 1:
                    return pasteLow + rows.start(part / columns.parts);
                case 2:
                    return columns.size;
                default:
                    return rows.size;
            }
        }

        /** How many vias go into a side of the THERMAL pad. */
        private int viasInto(int what) {
            long apart = family.of(Key.VIA);
            return thermal < 0 || apart <= 0 ? 0 : (int) (cell(thermal, what) / apart);
        }

        private int viaMiddle(int i, int what) {
            return (int) middle(i, viasInto(what), family.of(Key.VIA));
        }

        private int nameUnit(int i) {
            writeOnce();
            return i < nameLength ? line.unitAt(i) : NONE;
        }

        private int textUnit(int i) {
            writeOnce();
            return line.unitAt(i);
        }

        /** Written when it is first asked for, as most footprints are made and never told. */
        private void writeOnce() {
            if (isWritten) {
                return;
            }
            isWritten = true;
            line.length = 0;
            writeName();
            nameLength = line.length;
            line.addUnit('\n');
            for (int k = 0; k < count; k++) {
                writePad(k);
            }
            line.addWord("court");
            for (int i = 0; i < BOX_CELLS; i++) {
                line.addUnit(' ');
                line.addNumber(yard[i]);
            }
            line.addUnit('\n');
        }

        private void writeName() {
            for (int i = 0; i < family.letterCount && i < MOST_LETTERS; i++) {
                line.addUnit(family.letters[i]);
            }
            line.addNumber(count);
            line.addUnit('X');
            line.addNumber(outerHigh / 1000);
            line.addUnit(density == 0 ? 'L' : density == 1 ? 'N' : 'M');
        }

        private void writePad(int k) {
            for (int what = 0; what < PAD_CELLS; what++) {
                if (what > 0) {
                    line.addUnit(' ');
                }
                line.addNumber(cell(k, what));
            }
            line.addUnit('\n');
        }
    }

    /** Characters in a row that is used again. */
    private static final class Line {
        private final char[] units = new char[MOST_TEXT];
        private int length;

        private int unitAt(int i) {
            return i >= 0 && i < length && i < MOST_TEXT ? units[i] : NONE;
        }

        private void addUnit(char c) {
            if (length >= 0 && length < MOST_TEXT) {
                units[length] = c;
                length++;
            }
        }

        private void addWord(String word) {
            for (int i = 0; i < word.length(); i++) {
                addUnit(word.charAt(i));
            }
        }

        private void addNumber(long v) {
            if (v < 0) {
                addUnit('-');
            }
            long rest = Math.abs(v);
            long unit = 1;
            for (int i = 0; i < 18 && unit > 0 && rest / unit >= 10; i++) {
                unit *= 10;
            }
            for (; unit > 0; unit /= 10) {
                addUnit((char) ('0' + rest / unit % 10));
            }
        }
    }

    /** The hand-made pads, by their numbers. */
    private static final class HandMade {
        private final boolean[] isThere = new boolean[MOST_HAND + 1];
        private final long[] boxes = new long[(MOST_HAND + 1) * BOX_CELLS];
        private int count;

        private boolean put(int k, long x, long y, long w, long h) {
            if (k < 1 || k > MOST_HAND) {
                return false;
            }
            boolean isNew = !isThere[k];
            if (isNew) {
                isThere[k] = true;
                count++;
            }
            int at = k * BOX_CELLS;
            boxes[at] = x;
            boxes[at + 1] = y;
            boxes[at + 2] = w;
            boxes[at + 3] = h;
            return isNew;
        }

        private void forget() {
            count = 0;
            for (int k = 0; k < isThere.length; k++) {
                isThere[k] = false;
            }
        }

        /** No two pads have one number, so the hand-made ones that no pad met are the rest. */
        private int differences(Footprint print) {
            int differing = 0;
            int met = 0;
            for (int k = 0; k < print.count; k++) {
                long number = print.cell(k, NUMBER);
                boolean has = number >= 1 && number <= MOST_HAND && isThere[(int) number];
                if (has) {
                    met++;
                }
                if (!has || !isSame((int) number, print, k)) {
                    differing++;
                }
            }
            return differing + count - met;
        }

        private boolean isSame(int number, Footprint print, int k) {
            if (number < 0 || number > MOST_HAND) {
                return false;
            }
            for (int i = 0; i < BOX_CELLS; i++) {
                if (boxes[number * BOX_CELLS + i] != print.cell(k, LEFT + i)) {
                    return false;
                }
            }
            return true;
        }
    }
}
