/**
 * Font metrics from files as fonts have them: a file is fed byte by byte and
 * taken or refused with its first fault; characters are measured at any size;
 * rows of characters are set with the kerns and ligatures of the font's program.
 */
public final class FontMetrics {
    public static final int NONE = -1;
    public static final int TOO_MANY = -2;

    private static final int LARGEST_SIZE = 134217727;
    private static final int LONGEST_ROW = 64;

    /** Stands for an edge wherever a character may stand. */
    private static final int EDGE = 256;

    private final ByteFile file;
    private final Line line;
    private final int[] row;
    private int rowLength;

    // A file is tried in the spare font, so that a refused one leaves the font as it was.
    private Font font;
    private Font spare;
    private boolean loaded;

    public FontMetrics() {
        file = new ByteFile();
        line = new Line();
        row = new int[LONGEST_ROW];
        rowLength = 0;
        font = new Font();
        spare = new Font();
        loaded = false;
    }

    public boolean feed(long w, int n) {
        return file.append(w, n);
    }

    public boolean keep(int n) {
        return file.cut(n);
    }

    public int load(int size) throws IllegalArgumentException {
        if (size < 0 || size > LARGEST_SIZE) {
            throw new IllegalArgumentException("the size is not 0 .. 134217727");
        }
        spare.take(file.words);
        int fault = Faults.firstOfNumbers(spare, file.length);
        if (fault == 0) {
            fault = Faults.firstOfParts(spare);
        }
        if (fault != 0) {
            return fault;
        }
        spare.resize(size == 0 ? spare.designSize() : size);
        Font before = font;
        font = spare;
        spare = before;
        loaded = true;
        line.clear();
        return 0;
    }

    public int about(int what) throws IllegalStateException, IndexOutOfBoundsException {
        requireFont();
        switch (what) {
            case 0: return font.bc;
            case 1: return font.ec;
            case 2: return font.size;
            case 3: return font.designSize();
            case 4: return font.lengthOf(Font.PARAMETERS);
            case 5: return font.edge();
            case 6: return font.edgeStart() == NONE ? 0 : 1;
            default: throw new IndexOutOfBoundsException("nothing is known by this number");
        }
    }

    public boolean has(int c) {
        return loaded && font.isThere(c);
    }

    public int of(int c, int what) throws IllegalStateException, IndexOutOfBoundsException {
        requireFont();
        requireThere(c);
        switch (what) {
            case 0: return font.width(c);
            case 1: return font.height(c);
            case 2: return font.depth(c);
            case 3: return font.italic(c);
            case 4: return Font.tag(font.character(c));
            case 5: return Font.rest(font.character(c));
            default: throw new IndexOutOfBoundsException("nothing is known by this number");
        }
    }

    public int part(int c, int k) throws IllegalStateException, IndexOutOfBoundsException {
        requireFont();
        requireThere(c);
        int word = font.character(c);
        if (Font.tag(word) != Font.TAG_RECIPE || k < 0 || k > 3) {
            throw new IndexOutOfBoundsException("no such byte of a recipe");
        }
        return Font.byteOf(font.word(Font.RECIPES, Font.rest(word)), k);
    }

    public int parameter(int i) throws IllegalStateException, IndexOutOfBoundsException {
        requireFont();
        if (i < 1 || i > font.lengthOf(Font.PARAMETERS)) {
            throw new IndexOutOfBoundsException("no such parameter");
        }
        int word = font.word(Font.PARAMETERS, i - 1);
        // The first one is the slant, which has no size: it is no fraction and is not scaled.
        return i == 1 ? word >> 4 : font.scaled(word);
    }

    public int ask(int x, int r) throws IllegalStateException, IndexOutOfBoundsException {
        requireFont();
        requireThereOrEdge(x);
        requireThereOrEdge(r);
        return font.find(x, r);
    }

    public boolean add(int c) {
        if (c < 0 || c > 255 || rowLength < 0 || rowLength >= row.length) {
            return false;
        }
        row[rowLength] = c;
        rowLength++;
        return true;
    }

    public int set() throws IllegalStateException {
        requireFont();
        line.clear();
        if (!rowIsThere()) {
            return NONE;
        }
        line.lay(font, row, rowLength);
        rowLength = 0;
        return line.run(font) ? line.count : TOO_MANY;
    }

    public boolean isKern(int i) throws IndexOutOfBoundsException {
        requireItem(i);
        return line.kernAt(i);
    }

    public int item(int i) throws IndexOutOfBoundsException {
        requireItem(i);
        return line.valueAt(i);
    }

    public long total() {
        return line.width(font);
    }

    private boolean rowIsThere() {
        for (int i = 0; i < rowLength && i < row.length; i++) {
            if (!font.isThere(row[i])) {
                return false;
            }
        }
        return true;
    }

    private void requireFont() {
        if (!loaded) {
            throw new IllegalStateException("no font is loaded");
        }
    }

    private void requireThere(int c) {
        if (!font.isThere(c)) {
            throw new IndexOutOfBoundsException("the character is not there");
        }
    }

    private void requireThereOrEdge(int c) {
        if (c != EDGE) {
            requireThere(c);
        }
    }

    private void requireItem(int i) {
        if (i < 0 || i >= line.count) {
            throw new IndexOutOfBoundsException("no such item");
        }
    }

    /** The bytes fed so far, four to a word, the highest byte of a word first. */
    private static final class ByteFile {
        static final int MOST_BYTES = 8192;
        static final int MOST_WORDS = MOST_BYTES / 4;

        final int[] words;
        int length;

        ByteFile() {
            words = new int[MOST_WORDS];
            length = 0;
        }

        boolean append(long w, int n) {
            if (n < 1 || n > 8 || length + n > MOST_BYTES) {
                return false;
            }
            for (int i = n - 1; i >= 0; i--) {
                put((int) (w >>> (8 * i)) & 255);
            }
            return true;
        }

        boolean cut(int n) {
            if (n < 0 || n > length) {
                return false;
            }
            length = n;
            return true;
        }

        private void put(int value) {
            int at = length / 4;
            if (at < 0 || at >= words.length) {
                return;
            }
            // A word may still hold bytes that were cut off, so the old byte is blotted out.
            int shift = 24 - 8 * (length % 4);
            words[at] = (words[at] & ~(255 << shift)) | (value << shift);
            length++;
        }
    }

    /**
     * The parts of a file, and what they say at a size. Every look at a part is
     * tested against its length, so a file may be looked at before its faults are known.
     */
    private static final class Font {
        static final int HEAD = 0;
        static final int CHARACTERS = 1;
        static final int WIDTHS = 2;
        static final int HEIGHTS = 3;
        static final int DEPTHS = 4;
        static final int ITALICS = 5;
        static final int PROGRAM = 6;
        static final int KERNS = 7;
        static final int RECIPES = 8;
        static final int PARAMETERS = 9;
        static final int PARTS = 10;

        static final int NUMBERS = 12;
        static final int NUMBER_LF = 0;
        static final int NUMBER_LH = 1;
        static final int NUMBER_BC = 2;
        static final int NUMBER_EC = 3;
        static final int NUMBER_NW = 4;

        static final int TAG_PROGRAM = 1;
        static final int TAG_LARGER = 2;
        static final int TAG_RECIPE = 3;

        static final int SKIP_STOP = 128;
        static final int SKIP_EDGE = 255;

        /** What a program says from here on (256 * op + rest) is a kern. */
        static final int FIRST_KERN = 32768;

        static final int SCALE_LIMIT = 8388608;
        static final int FRACTION_BITS = 20;

        final int[] words;
        final int[] starts;
        final int[] lengths;
        int bc;
        int ec;
        int size;

        // The size halved until it is below SCALE_LIMIT, and how often that was done.
        int scale;
        int halvings;

        Font() {
            words = new int[ByteFile.MOST_WORDS];
            starts = new int[PARTS];
            lengths = new int[PARTS];
        }

        void take(int[] from) {
            System.arraycopy(from, 0, words, 0, Math.min(from.length, words.length));
            bc = number(NUMBER_BC);
            ec = number(NUMBER_EC);
            int start = NUMBERS / 2;
            for (int part = 0; part < PARTS; part++) {
                starts[part] = start;
                lengths[part] = lengthByNumbers(part);
                start += lengths[part];
            }
        }

        private int lengthByNumbers(int part) {
            if (part == HEAD) {
                return number(NUMBER_LH);
            }
            if (part == CHARACTERS) {
                return ec - bc + 1;
            }
            return number(NUMBER_NW + part - WIDTHS);
        }

        void resize(int newSize) {
            size = newSize;
            scale = newSize;
            for (halvings = 0; scale >= SCALE_LIMIT && halvings < FRACTION_BITS; halvings++) {
                scale = scale / 2;
            }
        }

        /** Number i of the twelve, two to a word. */
        int number(int i) {
            int at = i / 2;
            int word = at >= 0 && at < words.length ? words[at] : 0;
            return i % 2 == 0 ? word >>> 16 : word & 65535;
        }

        int lengthOf(int part) {
            return part >= 0 && part < PARTS ? lengths[part] : 0;
        }

        int word(int part, int place) {
            if (part < 0 || part >= PARTS || place < 0 || place >= lengths[part]) {
                return 0;
            }
            int at = starts[part] + place;
            return at >= 0 && at < words.length ? words[at] : 0;
        }

        /** As a size it needs no upper bound: 31 bits less 4 are never above 134217727. */
        int designSize() {
            return word(HEAD, 1) >> 4;
        }

        int scaled(int word) {
            long product = (long) (word & 0xFFFFFF) * scale;
            long value = product >> (FRACTION_BITS - halvings);
            if (byteOf(word, 0) == 255) {
                value -= (long) scale << (4 + halvings);
            }
            return (int) value;
        }

        /** The word of character c; 0, as of one that is not there, outside bc .. ec. */
        int character(int c) {
            return c >= bc && c <= ec ? word(CHARACTERS, c - bc) : 0;
        }

        boolean isThere(int c) {
            return widthPlace(character(c)) != 0;
        }

        int width(int c) {
            return scaled(word(WIDTHS, widthPlace(character(c))));
        }

        int height(int c) {
            return scaled(word(HEIGHTS, heightPlace(character(c))));
        }

        int depth(int c) {
            return scaled(word(DEPTHS, depthPlace(character(c))));
        }

        int italic(int c) {
            return scaled(word(ITALICS, italicPlace(character(c))));
        }

        /** The edge, or NONE. */
        int edge() {
            int word = word(PROGRAM, 0);
            return byteOf(word, 0) == SKIP_EDGE ? byteOf(word, 1) : NONE;
        }

        /** Where the last word of the program says that the edge's program begins, or NONE. */
        int edgeStart() {
            int word = word(PROGRAM, lengthOf(PROGRAM) - 1);
            return byteOf(word, 0) == SKIP_EDGE ? target(word) : NONE;
        }

        /** 256 * op + rest of the word that x's program finds when asked for r, or NONE. */
        int find(int x, int r) {
            int start = programStart(x);
            if (start < 0) {
                return NONE;
            }
            int asked = r == EDGE ? edge() : r;
            int nl = lengthOf(PROGRAM);
            int place = start;
            for (int step = 0; step < nl && place < nl; step++) {
                int word = word(PROGRAM, place);
                int skip = byteOf(word, 0);
                if (skip > SKIP_STOP) {
                    return NONE;
                }
                if (byteOf(word, 1) == asked) {
                    return saying(word);
                }
                if (skip == SKIP_STOP) {
                    return NONE;
                }
                place += skip + 1;
            }
            return NONE;
        }

        private int programStart(int x) {
            int start = x == EDGE ? edgeStart() : startOfCharacter(character(x));
            int word = word(PROGRAM, start);
            return byteOf(word, 0) > SKIP_STOP ? target(word) : start;
        }

        private static int startOfCharacter(int word) {
            return widthPlace(word) != 0 && tag(word) == TAG_PROGRAM ? rest(word) : NONE;
        }

        int kern(int place) {
            return scaled(word(KERNS, place));
        }

        static int byteOf(int word, int k) {
            return (word >>> (24 - 8 * k)) & 255;
        }

        /** 256 * c + d of a program's word: the place that it sends to. */
        static int target(int word) {
            return word & 65535;
        }

        /** 256 * op + rest of a program's word: what is to be done if it is found. */
        static int saying(int word) {
            return word & 65535;
        }

        static int widthPlace(int word) {
            return word >>> 24;
        }

        static int heightPlace(int word) {
            return (word >>> 20) & 15;
        }

        static int depthPlace(int word) {
            return (word >>> 16) & 15;
        }

        static int italicPlace(int word) {
            return (word >>> 10) & 63;
        }

        static int tag(int word) {
            return (word >>> 8) & 3;
        }

        static int rest(int word) {
            return word & 255;
        }
    }

    /** Finds the first fault of a file; each test relies on those before it having passed. */
    private static final class Faults {
        static final int LARGEST_NUMBER = 32767;
        static final int LEAST_DESIGN = 1 << 20;
        static final int MOST_RECIPES = 256;
        static final int MOST_CHARACTERS = 256;

        static int firstOfNumbers(Font font, int bytes) {
            if (bytes < 2 * Font.NUMBERS || !numbersAreSmall(font)) {
                return 1;
            }
            if (font.bc > font.ec + 1 || font.ec > 255) {
                return 2;
            }
            if (!partsAreEnough(font)) {
                return 3;
            }
            return lengthsAgree(font, bytes) ? 0 : 4;
        }

        static int firstOfParts(Font font) {
            if (font.word(Font.HEAD, 1) < LEAST_DESIGN) {
                return 5;
            }
            if (!measuresHavePlaces(font)) {
                return 6;
            }
            if (!tagsHold(font)) {
                return 7;
            }
            if (!fractionsHold(font)) {
                return 8;
            }
            if (!programHolds(font)) {
                return 9;
            }
            if (!recipesHold(font)) {
                return 10;
            }
            // The first parameter is not scaled, so it need not be a fraction.
            return areFractions(font, Font.PARAMETERS, 1) ? 0 : 11;
        }

        private static boolean numbersAreSmall(Font font) {
            for (int i = 0; i < Font.NUMBERS; i++) {
                if (font.number(i) > LARGEST_NUMBER) {
                    return false;
                }
            }
            return true;
        }

        private static boolean partsAreEnough(Font font) {
            return font.lengthOf(Font.HEAD) >= 2
                && font.lengthOf(Font.WIDTHS) > 0
                && font.lengthOf(Font.HEIGHTS) > 0
                && font.lengthOf(Font.DEPTHS) > 0
                && font.lengthOf(Font.ITALICS) > 0
                && font.lengthOf(Font.RECIPES) <= MOST_RECIPES;
        }

        private static boolean lengthsAgree(Font font, int bytes) {
            int lf = font.number(Font.NUMBER_LF);
            int sum = Font.NUMBERS / 2;
            for (int part = 0; part < Font.PARTS; part++) {
                sum += font.lengthOf(part);
            }
            return lf == sum && bytes == 4 * lf;
        }

        /** Characters that are not there count too: their words name places all the same. */
        private static boolean measuresHavePlaces(Font font) {
            for (int i = 0; i < font.lengthOf(Font.CHARACTERS); i++) {
                int word = font.word(Font.CHARACTERS, i);
                if (Font.widthPlace(word) >= font.lengthOf(Font.WIDTHS)
                    || Font.heightPlace(word) >= font.lengthOf(Font.HEIGHTS)
                    || Font.depthPlace(word) >= font.lengthOf(Font.DEPTHS)
                    || Font.italicPlace(word) >= font.lengthOf(Font.ITALICS)) {
                    return false;
                }
            }
            return true;
        }

        private static boolean tagsHold(Font font) {
            for (int i = 0; i < font.lengthOf(Font.CHARACTERS); i++) {
                int c = font.bc + i;
                if (font.isThere(c) && !tagHolds(font, c)) {
                    return false;
                }
            }
            return true;
        }

        private static boolean tagHolds(Font font, int c) {
            int word = font.character(c);
            int rest = Font.rest(word);
            switch (Font.tag(word)) {
                case Font.TAG_PROGRAM: return rest < font.lengthOf(Font.PROGRAM);
                case Font.TAG_LARGER: return font.isThere(rest) && !leadsBack(font, c);
                case Font.TAG_RECIPE: return rest < font.lengthOf(Font.RECIPES);
                default: return true;
            }
        }

        /** Whether steps to the next larger character lead from c to c; none takes more than there are. */
        private static boolean leadsBack(Font font, int c) {
            int at = c;
            for (int step = 0; step < MOST_CHARACTERS; step++) {
                int word = font.character(at);
                if (Font.widthPlace(word) == 0 || Font.tag(word) != Font.TAG_LARGER) {
                    return false;
                }
                at = Font.rest(word);
                if (at == c) {
                    return true;
                }
            }
            return false;
        }

        private static boolean fractionsHold(Font font) {
            for (int part = Font.WIDTHS; part <= Font.ITALICS; part++) {
                if (font.word(part, 0) != 0 || !areFractions(font, part, 1)) {
                    return false;
                }
            }
            return areFractions(font, Font.KERNS, 0);
        }

        private static boolean areFractions(Font font, int part, int from) {
            for (int place = from; place < font.lengthOf(part); place++) {
                int a = Font.byteOf(font.word(part, place), 0);
                if (a != 0 && a != 255) {
                    return false;
                }
            }
            return true;
        }

        private static boolean programHolds(Font font) {
            for (int place = 0; place < font.lengthOf(Font.PROGRAM); place++) {
                int word = font.word(Font.PROGRAM, place);
                if (!wayHolds(font, word, place) || !sayingHolds(font, word)) {
                    return false;
                }
            }
            return true;
        }

        /** Whether all the places that a program may go to from this word are there. */
        private static boolean wayHolds(Font font, int word, int place) {
            int nl = font.lengthOf(Font.PROGRAM);
            int skip = Font.byteOf(word, 0);
            if (skip > Font.SKIP_STOP) {
                return Font.target(word) < nl;
            }
            return skip == Font.SKIP_STOP || place + skip + 1 < nl;
        }

        /** Whether what the word says, and of what next character, is there. */
        private static boolean sayingHolds(Font font, int word) {
            if (Font.byteOf(word, 0) > Font.SKIP_STOP) {
                return true;
            }
            int next = Font.byteOf(word, 1);
            if (!font.isThere(next) && next != font.edge()) {
                return false;
            }
            int saying = Font.saying(word);
            if (saying >= Font.FIRST_KERN) {
                return saying - Font.FIRST_KERN < font.lengthOf(Font.KERNS);
            }
            return font.isThere(Font.rest(word));
        }

        private static boolean recipesHold(Font font) {
            for (int place = 0; place < font.lengthOf(Font.RECIPES); place++) {
                int word = font.word(Font.RECIPES, place);
                if (!font.isThere(Font.byteOf(word, 3))) {
                    return false;
                }
                for (int k = 0; k < 3; k++) {
                    int c = Font.byteOf(word, k);
                    if (c != 0 && !font.isThere(c)) {
                        return false;
                    }
                }
            }
            return true;
        }
    }

    /**
     * A row being set, and its items. What is set never changes the places before
     * place i, so these are items already; the others are pending, place i on top.
     */
    private static final class Line {
        static final int MOST_ASKED = 1000;

        /** Each time of asking brings one character or kern at most; two places are for the edges. */
        static final int MOST_PLACES = LONGEST_ROW + 2 + MOST_ASKED;

        final int[] pending;
        final int[] values;
        final boolean[] kerns;
        int left;
        int count;

        Line() {
            pending = new int[MOST_PLACES];
            values = new int[MOST_PLACES];
            kerns = new boolean[MOST_PLACES];
            left = 0;
            count = 0;
        }

        void clear() {
            left = 0;
            count = 0;
        }

        void lay(Font font, int[] row, int rowLength) {
            left = 0;
            if (font.edge() != NONE) {
                push(EDGE);
            }
            for (int i = Math.min(rowLength, row.length) - 1; i >= 0; i--) {
                push(row[i]);
            }
            if (font.edgeStart() != NONE) {
                push(EDGE);
            }
        }

        /** False, leaving no items, when there was too much asking. */
        boolean run(Font font) {
            for (int asked = 0; asked < MOST_ASKED && left > 1; asked++) {
                step(font);
            }
            if (left > 1) {
                clear();
                return false;
            }
            pass(left);
            return true;
        }

        private void step(Font font) {
            int x = pendingAt(0);
            int r = pendingAt(1);
            int saying = font.find(x, r);
            if (saying == NONE) {
                pass(1);
            } else if (saying >= Font.FIRST_KERN) {
                pass(1);
                append(font.kern(saying - Font.FIRST_KERN), true);
            } else {
                join(x, r, saying);
            }
        }

        private void join(int x, int r, int saying) {
            int op = saying >> 8;
            left -= 2;
            if (op % 2 == 1) {
                push(r);
            }
            push(saying & 255);
            if (op / 2 % 2 == 1) {
                push(x);
            }
            pass(Math.min(op / 4, left - 1));
        }

        /** Makes items of the next n pending places; edges end here, as no one asks behind place i. */
        private void pass(int n) {
            for (int i = 0; i < n; i++) {
                int c = pendingAt(0);
                left--;
                if (c != EDGE) {
                    append(c, false);
                }
            }
        }

        private void push(int c) {
            if (left >= 0 && left < pending.length) {
                pending[left] = c;
                left++;
            }
        }

        private int pendingAt(int i) {
            int at = left - 1 - i;
            return at >= 0 && at < pending.length ? pending[at] : EDGE;
        }

        private void append(int value, boolean isKern) {
            if (count >= 0 && count < values.length && count < kerns.length) {
                values[count] = value;
                kerns[count] = isKern;
                count++;
            }
        }

        boolean kernAt(int i) {
            return i >= 0 && i < kerns.length && kerns[i];
        }

        int valueAt(int i) {
            return i >= 0 && i < values.length ? values[i] : 0;
        }

        long width(Font font) {
            long sum = 0;
            for (int i = 0; i < count; i++) {
                sum += kernAt(i) ? valueAt(i) : font.width(valueAt(i));
            }
            return sum;
        }
    }
}
