import java.util.Arrays;

/** Promises 10 to 15: ask, add, set, isKern, item and total. */
public final class SetTest {
    private static final Check CHECK = new Check();
    private static final int A = 65;
    private static final int B = 66;
    private static final int C = 67;
    private static final int D = 68;
    private static final int KERN = 128;
    private static final int EDGE = 256;

    public static void main(String[] args) {
        askFinds();
        askStarts();
        askEdges();
        askRefuses();
        addEdges();
        setRefuses();
        kerns();
        ligatures();
        growing();
        edges();
        edgeLigatures();
        tooMany();
        askingOften();
        growingMuch();
        mostItems();
        itemsAndTotal();
        CHECK.end("SetTest");
    }

    private static FontFile letters() {
        return Rows.letters();
    }

    private static void asked(String what, FontFile file, int x, int r, int want) {
        FontMetrics font = file.loaded();
        CHECK.due("ask(" + x + ", " + r + "): " + what, font.ask(x, r), want);
    }

    private static void askFinds() {
        FontFile file = letters().tagged(A, 1, 0).tagged(B, 1, 2);
        file.step(1, C, 0, D);
        file.step(128, A, 3, D);
        file.step(0, D, KERN, 1);
        file.step(0, D, KERN, 0);
        file.step(128, C, 127, 90);
        file.step(128, B, 5, 89);
        asked("the first word", file, A, C, D);
        asked("a word that is skipped", file, A, A, -1);
        asked("the word behind a skip", file, A, D, 256 * KERN + 1);
        asked("the first of two", file, B, D, 256 * KERN + 1);
        asked("the last word", file, B, C, 256 * 127 + 90);
        asked("a word behind the last", file, B, B, -1);
        asked("no program", file, C, C, -1);
        asked("rest without tag 1", file.tagged(C, 0, 5), C, B, -1);
        asked("tag 2", file.tagged(C, 2, D), C, C, -1);
        asked("the last place", file.tagged(C, 1, 5), C, B, 256 * 5 + 89);
        FontFile stop = letters().tagged(A, 1, 0).step(0, B, 0, C).step(129, C, 0, 0).step(128, C, 0, C);
        asked("a word above 128 ends it", stop, A, C, -1);
        FontFile far = letters().tagged(A, 1, 0).step(127, B, 0, C);
        for (int i = 0; i < 128; i++) {
            far.step(128, D, 0, D);
        }
        far.program.set(128, FontFile.word(128, D, 1, D));
        asked("skip 127", far, A, D, 256 + D);
        FontFile kern = letters().tagged(A, 1, 0).step(128, B, 129, 2);
        while (kern.kerns.size() < 259) {
            kern.kerns.add(kern.kerns.size());
        }
        asked("a kern far behind", kern, A, B, 256 * 129 + 2);
    }

    private static void askStarts() {
        FontFile file = letters().tagged(A, 1, 0).tagged(B, 1, 1).tagged(C, 1, 2);
        file.step(129, 0, 0, 3).step(255, 0, 0, 0).step(200, 0, 1, 4).step(128, D, 0, D);
        while (file.program.size() < 260) {
            file.step(128, B, 0, B);
        }
        file.step(128, A, 2, B);
        asked("a start that sends on", file, A, D, D);
        asked("a start that sends on to one that would", file, B, D, -1);
        asked("a start that sends far", file, C, A, 512 + B);
        FontFile next = letters().tagged(A, 1, 0).step(129, B, 0, 1).step(128, C, 0, D);
        asked("the next of a start that sends on", next, A, B, -1);
        asked("the word it sends to", next, A, C, D);
    }

    private static void askEdges() {
        FontFile none = letters().tagged(A, 1, 0).step(128, B, 0, B);
        asked("no edge's program", none, EDGE, B, -1);
        asked("no edge", none, A, EDGE, -1);
        asked("neither", none, EDGE, EDGE, -1);
        FontFile both = letters().tagged(A, 1, 1);
        both.step(255, D, 0, 0).step(0, D, 0, C).step(128, B, 1, C).step(255, 0, 0, 1);
        asked("the edge's program", both, EDGE, B, 256 + C);
        asked("the edge of a character", both, A, EDGE, C);
        asked("the edge of the edge", both, EDGE, EDGE, C);
        asked("the character that is as the edge", both, A, D, C);
        asked("the program of the edge's character", both, D, B, -1);
        FontFile sent = letters().step(255, 91, 0, 0).step(129, 0, 0, 2).step(128, 91, 0, C).step(255, 0, 0, 1);
        asked("an edge's program that sends on", sent, EDGE, EDGE, C);
        FontFile alone = letters().tagged(A, 1, 0).step(255, 91, 0, 0);
        asked("a program of one word", alone, A, EDGE, -1);
        asked("an edge's program of one word", alone, EDGE, EDGE, -1);
    }

    private static void askRefuses() {
        FontMetrics empty = new FontMetrics();
        CHECK.noFont("ask(65, 65) without a font", () -> empty.ask(A, A));
        CHECK.noFont("ask(-1, 65) without a font", () -> empty.ask(-1, A));
        FontMetrics x = letters().gone(C).step(255, 91, 0, 0).loaded();
        for (int c : new int[] {64, 91, C, -1, 257, 255, 0, Integer.MIN_VALUE, Integer.MAX_VALUE}) {
            CHECK.noIndex("ask(" + c + ", 65)", () -> x.ask(c, A));
            CHECK.noIndex("ask(65, " + c + ")", () -> x.ask(A, c));
            CHECK.noIndex("ask(256, " + c + ")", () -> x.ask(EDGE, c));
            CHECK.noIndex("ask(" + c + ", 256)", () -> x.ask(c, EDGE));
        }
        CHECK.due("ask(65, 66)", x.ask(A, B), -1);
    }

    private static void addEdges() {
        FontMetrics x = new FontMetrics();
        for (int c : new int[] {-1, 256, Integer.MIN_VALUE, Integer.MAX_VALUE}) {
            CHECK.due("add(" + c + ")", x.add(c), false);
        }
        FontFile.plain(0, 255).loadInto(x, 0);
        CHECK.due("set() behind refused characters", x.set(), 0);
        CHECK.due("add(0)", x.add(0), true);
        CHECK.due("add(255)", x.add(255), true);
        CHECK.due("set() of two", x.set(), 2);
        CHECK.due("item(0)", x.item(0), 0);
        CHECK.due("item(1)", x.item(1), 255);
        for (int i = 0; i < 64; i++) {
            CHECK.due("add of character " + i, x.add(100 + i), true);
        }
        CHECK.due("add of a 65th", x.add(1), false);
        CHECK.due("add of a 65th that is none", x.add(-1), false);
        CHECK.due("set() of 64", x.set(), 64);
        for (int i = 0; i < 64; i++) {
            CHECK.due("item(" + i + ") of 64", x.item(i), 100 + i);
        }
        CHECK.due("add behind set()", x.add(1), true);
    }

    private static void addAll(FontMetrics x, int... row) {
        Rows.add(x, row);
    }

    private static void setRefuses() {
        FontMetrics x = new FontMetrics();
        addAll(x, A, C);
        CHECK.noFont("set() without a font", () -> x.set());
        letters().gone(C).loadInto(x, 0);
        CHECK.due("set() of one that is not there", x.set(), FontMetrics.NONE);
        CHECK.due("set() again: the row stays", x.set(), FontMetrics.NONE);
        CHECK.noIndex("item(0) behind NONE", () -> x.item(0));
        letters().loadInto(x, 0);
        CHECK.due("set() when it is there", x.set(), 2);
        CHECK.due("item(1)", x.item(1), C);
        FontMetrics first = letters().gone(C).loaded();
        addAll(first, C, A);
        CHECK.due("set() of a first one that is not there", first.set(), FontMetrics.NONE);
        addAll(x, A, 91);
        CHECK.due("set() of one behind ec", x.set(), FontMetrics.NONE);
        CHECK.noIndex("item(0): the items before are gone", () -> x.item(0));
        CHECK.noIndex("isKern(0): the items before are gone", () -> x.isKern(0));
        CHECK.due("total(): the items before are gone", x.total(), 0);
        x.add(B);
        FontFile.plain(A, 91).loadInto(x, 0);
        CHECK.due("set() of the row that stayed", x.set(), 3);
        CHECK.due("item(2)", x.item(2), B);
        CHECK.due("set() of the row that is empty then", x.set(), 0);
        CHECK.noIndex("item(0) of no items", () -> x.item(0));
    }

    /** Sets a row at ten points, where the kerns are 40960 and -40960. */
    private static void set(String what, FontFile file, int[] row, int... want) {
        Rows.set(CHECK, what, file, row, want);
    }

    private static int kern(int width) {
        return Rows.kern(width);
    }

    private static int[] row(int... row) {
        return row;
    }

    private static void kerns() {
        FontFile file = letters().tagged(A, 1, 0).tagged(B, 1, 1);
        file.step(0, B, KERN, 0).step(128, A, KERN, 1);
        set("no characters", file, row());
        set("one", file, row(A), A);
        set("no kern", file, row(C, A, D), C, A, D);
        set("a kern", file, row(A, B), A, kern(40960), B);
        set("kerns", file, row(A, B, A, A, C), A, kern(40960), B, kern(-40960), A, kern(-40960), A, C);
    }

    /** A row of A B with a ligature C of each way of keeping, and what it says of B and D behind. */
    private static void ligatures() {
        int[][] want = {{C, D}, {C, B, D}, {A, C, D}, {A, C, B, D}};
        for (int keep = 0; keep < 4; keep++) {
            FontFile file = letters().tagged(A, 1, 0).step(128, B, keep, C);
            set("op " + keep, file, row(A, B, D), want[keep]);
        }
        FontFile again = letters().tagged(A, 1, 0).tagged(C, 1, 1);
        again.step(128, B, 0, C).step(0, D, 0, 80).step(128, B, KERN, 0);
        set("the ligature is asked", again, row(A, B, D), 80);
        set("the ligature is asked for a kern", again, row(A, B, B), C, kern(40960), B);
        FontFile kept = letters().tagged(A, 1, 0).tagged(C, 1, 2);
        kept.step(0, B, 2, C).step(128, C, KERN, 1).step(128, B, KERN, 0);
        set("x is asked for the ligature", kept, row(A, B, B), A, kern(-40960), C, kern(40960), B);
        FontFile before = letters().tagged(D, 1, 0).tagged(A, 1, 1).tagged(C, 1, 2);
        before.step(128, A, KERN, 0).step(128, B, 0, C).step(128, D, 0, 80);
        set("a kern before stays", before, row(D, A, B, D), D, kern(40960), 80);
    }

    /** With u more than 0 the ligature and what is behind it may be passed over. */
    private static void growing() {
        FontFile file = letters().tagged(A, 1, 0).tagged(C, 1, 1).tagged(B, 1, 2);
        file.step(128, B, 0, C).step(128, B, KERN, 0).step(128, D, KERN, 1);
        int kern = kern(40960);
        int back = kern(-40960);
        // op = 4 * u + 2 * v + w
        grown(file, 0 + 1, C, kern, B, back, D);
        grown(file, 4 + 1, C, B, back, D);
        grown(file, 8 + 1, C, B, D);
        grown(file, 12 + 1, C, B, D);
        grown(file, 0 + 3, A, C, kern, B, back, D);
        grown(file, 4 + 3, A, C, kern, B, back, D);
        grown(file, 8 + 3, A, C, B, back, D);
        grown(file, 12 + 3, A, C, B, D);
        grown(file, 124 + 3, A, C, B, D);
        grown(file, 4 + 0, C, D);
        grown(file, 124 + 2, A, C, D);
        FontFile end = letters().tagged(A, 1, 0).step(128, B, 124, C);
        set("the last place stays the last", end, row(A, B), C);
        growingFar();
    }

    private static void grown(FontFile file, int op, int... want) {
        file.program.set(0, FontFile.word(128, B, op, C));
        set("op " + op, file, row(A, B, D), want);
    }

    /** A ligature that passes over the places 0 .. 30, so that place 31 asks first. */
    private static void growingFar() {
        FontFile file = letters().tagged(A, 1, 0).tagged(D, 1, 1);
        file.step(128, B, 4 * 31 + 1, C).step(128, D, KERN, 0);
        int[] row = new int[60];
        Arrays.fill(row, D);
        row[0] = A;
        row[1] = B;
        int[] want = new int[60 + 28];
        Arrays.fill(want, D);
        want[0] = C;
        want[1] = B;
        for (int i = 32; i < want.length; i += 2) {
            want[i] = kern(40960);
        }
        set("31 places", file, row, want);
    }

    private static void edges() {
        FontFile behind = letters().tagged(A, 1, 1).step(255, 91, 0, 0).step(128, 91, KERN, 0);
        set("a kern before the edge", behind, row(B, A), B, A, kern(40960));
        set("no characters, an edge behind", behind, row());
        FontFile before = letters().step(0, A, KERN, 0).step(128, B, KERN, 1).step(255, 91, 0, 0);
        set("a kern behind the edge", before, row(A, A), kern(40960), A, A);
        set("another one", before, row(B), kern(-40960), B);
        set("none", before, row(C), C);
        set("no characters, an edge before", before, row());
        FontFile both = letters().tagged(A, 1, 1);
        both.step(255, 91, 0, 0).step(0, 91, KERN, 0).step(128, A, KERN, 1).step(255, 0, 0, 1);
        set("both edges", both, row(A, A), kern(-40960), A, kern(-40960), A, kern(40960));
        set("a kern between the edges", both, row(), kern(40960));
        FontFile same = letters().tagged(A, 1, 1).tagged(D, 1, 2);
        same.step(255, D, 0, 0).step(128, D, KERN, 0).step(128, B, KERN, 1);
        set("the edge is a character too", same, row(A, D, B, A), A, kern(40960), D, kern(-40960), B, A, kern(40960));
    }

    private static void edgeLigatures() {
        int[][] before = {{C}, {C, A}, {C}, {C, A}};
        int[][] behind = {{C}, {C}, {A, C}, {A, C}};
        for (int keep = 0; keep < 4; keep++) {
            FontFile first = letters().step(128, A, keep, C).step(255, 0, 0, 0);
            set("the edge before, op " + keep, first, row(A), before[keep]);
            FontFile last = letters().tagged(A, 1, 1).step(255, 91, 0, 0).step(128, 91, keep, C);
            set("the edge behind, op " + keep, last, row(A), behind[keep]);
            FontFile none = letters().step(255, 91, 0, 0).step(128, 91, keep, C).step(255, 0, 0, 1);
            set("no characters, op " + keep, none, row(), C);
        }
        FontFile kept = letters().tagged(A, 1, 1).tagged(C, 1, 2);
        kept.step(255, 91, 0, 0).step(128, 91, 1, C).step(128, 91, KERN, 0);
        set("the edge kept behind is asked for again", kept, row(A), C, kern(40960));
        kept.program.set(1, FontFile.word(128, 91, 0, C));
        set("the edge taken out is not", kept, row(A), C);
        kept.program.set(1, FontFile.word(128, 91, 4 + 1, C));
        set("up to the edge", kept, row(A), C);
        FontFile start = letters().step(0, A, 2, C).step(128, C, KERN, 0).step(255, 0, 0, 0);
        set("the edge kept before asks again", start, row(A), kern(40960), C);
    }

    private static void tooMany() {
        FontFile endless = letters().tagged(A, 1, 0).step(128, B, 1, A);
        FontMetrics x = endless.loaded();
        addAll(x, C);
        x.set();
        addAll(x, A, B);
        CHECK.due("set() without an end", x.set(), FontMetrics.TOO_MANY);
        CHECK.noIndex("item(0) behind TOO_MANY", () -> x.item(0));
        CHECK.noIndex("isKern(0) behind TOO_MANY", () -> x.isKern(0));
        CHECK.due("total() behind TOO_MANY", x.total(), 0);
        CHECK.due("set() behind TOO_MANY: the row is empty", x.set(), 0);
        addAll(x, B, A);
        CHECK.due("set() with an end", x.set(), 2);
        FontMetrics grows = letters().tagged(A, 1, 0).step(0, B, 3, B).step(128, A, 3, A).loaded();
        addAll(grows, A, B);
        CHECK.due("set() that grows without an end", grows.set(), FontMetrics.TOO_MANY);
        addAll(grows, A, A);
        CHECK.due("set() that grows again", grows.set(), FontMetrics.TOO_MANY);
        FontMetrics moves = letters().tagged(A, 1, 0).step(128, B, 4 + 3, A).loaded();
        addAll(moves, A, B);
        CHECK.due("set() that grows and moves", moves.set(), FontMetrics.TOO_MANY);
    }

    /**
     * Of the characters 0 .. 199 each one before 255 becomes the next one, and 200 stays: so c and
     * 255 take 200 - c times of asking, and one more for 200, which has no program.
     */
    private static FontMetrics counter() {
        FontFile file = FontFile.plain(0, 255);
        for (int c = 0; c < 200; c++) {
            file.tagged(c, 1, c).step(128, 255, 1, c + 1);
        }
        return file.loaded();
    }

    private static void tooManyAt(int asked, int want) {
        FontMetrics x = counter();
        int left = asked;
        int items = 0;
        while (left > 0) {
            // behind each 255 but the last one there is one more time of asking
            int most = Math.min(200, left - 1);
            if (left - most - 1 == 1) {
                most--;
            }
            x.add(200 - most);
            x.add(255);
            items += 2;
            left -= most + 1;
            left -= left > 0 ? 1 : 0;
        }
        CHECK.due("set() with " + asked + " times of asking", x.set(), want == 0 ? items : want);
    }

    private static void askingOften() {
        for (int asked = 1; asked <= 1000; asked += 27) {
            tooManyAt(asked, 0);
        }
        tooManyAt(999, 0);
        tooManyAt(1000, 0);
        tooManyAt(1001, FontMetrics.TOO_MANY);
        tooManyAt(1002, FontMetrics.TOO_MANY);
    }

    private static void growingMuch() {
        FontFile file = FontFile.plain(0, 255);
        for (int c = 0; c < 15; c++) {
            file.tagged(c, 1, c).step(128, 255, 4 + 3, c + 1);
        }
        FontMetrics x = file.loaded();
        for (int i = 0; i < 32; i++) {
            addAll(x, 0, 255);
        }
        CHECK.due("set() that grows much", x.set(), 64 + 32 * 15);
        CHECK.due("item(15)", x.item(15), 15);
        CHECK.due("item(16)", x.item(16), 255);
        CHECK.due("item(527)", x.item(527), 0);
        CHECK.due("item(542)", x.item(542), 15);
        CHECK.due("item(543)", x.item(543), 255);
        CHECK.noIndex("item(544)", () -> x.item(544));
        CHECK.due("total()", x.total(), 544L * 327680);
    }

    /**
     * A full row with both edges that asks just 1000 times, each of which brings an item: c and 255
     * bring c + 1 .. 40 and a kern, 255 and what is behind it a kern, and the edge before a kern.
     */
    private static void mostItems() {
        FontFile file = FontFile.plain(0, 255).tagged(40, 1, 41).tagged(255, 1, 42).step(255, 255, 0, 0);
        file.kerns.add(0x00010000);
        for (int c = 0; c < 40; c++) {
            file.tagged(c, 1, c + 1).step(128, 255, 4 + 3, c + 1);
        }
        file.step(128, 255, KERN, 0);
        file.step(0, 4, KERN, 0).step(0, 255, KERN, 0).step(128, 11, KERN, 0).step(255, 0, 0, 42);
        FontMetrics x = file.loaded();
        for (int i = 0; i < 31; i++) {
            addAll(x, 11, 255);
        }
        addAll(x, 4, 255);
        CHECK.due("set() to the most items", x.set(), 1064);
        CHECK.due("item(0)", x.item(0), 40960);
        CHECK.due("isKern(1063)", x.isKern(1063), true);
        CHECK.due("item(1062)", x.item(1062), 255);
        CHECK.due("isKern(1061)", x.isKern(1061), true);
        CHECK.due("item(1060)", x.item(1060), 40);
        CHECK.noIndex("item(1064)", () -> x.item(1064));
        int kerns = 1 + 31 + 32 + 1;
        CHECK.due("total() of the most items", x.total(), (1064L - kerns) * 327680 + kerns * 40960L);
    }

    private static void itemsAndTotal() {
        FontFile file = letters().tagged(A, 1, 0).step(128, B, KERN, 0);
        file.widths.set(1, 0x00FFFFFF);
        file.kerns.set(0, 0xFF000000);
        FontMetrics x = new FontMetrics();
        file.loadInto(x, 134217727);
        addAll(x, C, C, C, A, B);
        CHECK.due("set() of wide ones", x.set(), 6);
        CHECK.due("item(4) is the kern, scaled", x.item(4), -2147483392);
        CHECK.due("total() beyond int", x.total(), 5L * 2147483264L - 2147483392L);
        for (int i : new int[] {-1, 6, Integer.MIN_VALUE, Integer.MAX_VALUE}) {
            CHECK.noIndex("item(" + i + ")", () -> x.item(i));
            CHECK.noIndex("isKern(" + i + ")", () -> x.isKern(i));
        }
        x.add(C);
        CHECK.due("item(0) while the next row comes", x.item(0), C);
        CHECK.due("set() of one", x.set(), 1);
        CHECK.due("total() of one", x.total(), 2147483264L);
        CHECK.noIndex("item(1) of one", () -> x.item(1));
        FontFile widths = letters().measured(C, 2, 0, 0, 0).gone(D).measured(D, 1, 0, 0, 0);
        FontMetrics y = widths.loaded();
        addAll(y, C, D, C);
        y.set();
        CHECK.due("total() of several widths", y.total(), 163840 + 327680 + 163840);
    }
}
