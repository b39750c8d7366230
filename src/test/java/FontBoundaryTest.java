/** The boundary cases of the promises 5 to 9, and of the terms CHARACTER, TAGS and EDGE. */
public final class FontBoundaryTest {
    private static final Check CHECK = new Check();
    private static final int LEAST = Integer.MIN_VALUE;
    private static final int LARGEST = Integer.MAX_VALUE;
    private static final int NONE = FontMetrics.NONE;

    public static void main(String[] args) {
        characterPlaces();
        characterIsThereFromBcToEc();
        characterIsThereWithAWidth();
        tags();
        edgeOfTheFirstWord();
        edgesProgramOfTheLastWord();
        promise5What();
        promise5BcAndEc();
        promise5Sizes();
        promise5Parameters();
        promise5NoEdge();
        promise5NoFont();
        promise6NoFont();
        promise6There();
        promise7What();
        promise7NotThere();
        promise7NoFont();
        promise8Byte();
        promise8NotThere();
        promise8HasNone();
        promise8NoFont();
        promise9From1On();
        promise9First();
        promise9Others();
        promise9NoFont();
        CHECK.end("FontBoundaryTest");
    }

    /** At 1048576 a word is its own value, so a measure tells its place. */
    private static FontFile places() {
        FontFile file = FontFile.plain(65, 70);
        file.widths.clear();
        for (int i = 0; i < 256; i++) {
            file.widths.add(1000 * i);
        }
        for (int i = 1; i < 16; i++) {
            file.heights.add(2000 * i);
            file.depths.add(3000 * i);
        }
        for (int i = 1; i < 64; i++) {
            file.italics.add(4000 * i);
        }
        return file;
    }

    private static void characterPlaces() {
        CHECK.sentence("Terms", "a is the place of its width, b / 16 that of its height, b % 16 that of its depth, "
            + "c / 4 that of its italic; c % 4 is its TAG, d its REST");
        for (int a : new int[] {1, 127, 128, 255}) {
            for (int b : new int[] {0, 1, 15, 16, 17, 127, 128, 240, 255}) {
                placed(a, b, 0, 0);
            }
        }
        for (int c : new int[] {0, 4, 124, 128, 252}) {
            for (int d : new int[] {0, 1, 127, 128, 255}) {
                placed(1, 0, c, d);
            }
        }
        placed(255, 255, 252, 255);
    }

    private static void placed(int a, int b, int c, int d) {
        FontFile file = places();
        file.characters[67] = FontFile.word(a, b, c, d);
        FontMetrics x = new FontMetrics();
        String what = " of " + a + " " + b + " " + c + " " + d;
        CHECK.due("load" + what, file.loadInto(x, 1048576), 0);
        CHECK.due("of(67, 0)" + what, x.of(67, 0), 1000 * a);
        CHECK.due("of(67, 1)" + what, x.of(67, 1), 2000 * (b / 16));
        CHECK.due("of(67, 2)" + what, x.of(67, 2), 3000 * (b % 16));
        CHECK.due("of(67, 3)" + what, x.of(67, 3), 4000 * (c / 4));
        CHECK.due("of(67, 4)" + what, x.of(67, 4), 0);
        CHECK.due("of(67, 5)" + what, x.of(67, 5), d);
    }

    private static void characterIsThereFromBcToEc() {
        CHECK.sentence("Terms", "It IS THERE if bc <= c <= ec");
        int[][] fonts = {{0, 0}, {0, 1}, {0, 255}, {1, 254}, {65, 65}, {65, 70}, {254, 255}, {255, 255}};
        for (int[] font : fonts) {
            int bc = font[0];
            int ec = font[1];
            FontMetrics x = FontFile.plain(bc, ec).loaded();
            String what = ") of " + bc + " .. " + ec;
            CHECK.due("has(" + (bc - 1) + what, x.has(bc - 1), false);
            CHECK.due("has(" + bc + what, x.has(bc), true);
            CHECK.due("has(" + ec + what, x.has(ec), true);
            CHECK.due("has(" + (ec + 1) + what, x.has(ec + 1), false);
            for (int c : new int[] {bc - 256, bc + 256, bc + 65536, LEAST + bc, LEAST, LARGEST}) {
                CHECK.due("has(" + c + what, x.has(c), false);
            }
        }
        int[][] none = {{1, 0}, {66, 65}, {255, 254}, {256, 255}};
        for (int[] font : none) {
            FontMetrics x = FontFile.plain(font[0], font[1]).loaded();
            CHECK.due("has(bc) of none", x.has(font[0]), false);
            CHECK.due("has(ec) of none", x.has(font[1]), false);
            CHECK.due("has(0) of none", x.has(0), false);
        }
    }

    private static void characterIsThereWithAWidth() {
        CHECK.sentence("Terms", "It IS THERE if .. and a is not 0");
        for (int c : new int[] {65, 67, 70}) {
            for (int a : new int[] {0, 1, 2, 128, 255}) {
                FontFile file = places();
                file.characters[c] = FontFile.word(a, 0xFF, 0xFC, 0xFF);
                FontMetrics x = file.loaded();
                CHECK.due("has(" + c + ") of a " + a, x.has(c), a != 0);
            }
        }
        // a is a place: the width at it may well be 0
        FontFile file = places();
        file.widths.set(1, 0);
        FontMetrics x = file.loaded();
        CHECK.due("has(65) of a width that is 0", x.has(65), true);
        CHECK.due("of(65, 0) of a width that is 0", x.of(65, 0), 0);
    }

    private static FontMetrics tagged() {
        FontFile file = FontFile.plain(65, 70).tagged(66, 1, 1).tagged(67, 2, 70).tagged(68, 3, 1).tagged(69, 0, 1);
        file.step(128, 66, 0, 67).step(128, 65, 0, 69);
        file.recipes.add(FontFile.word(65, 66, 67, 68));
        file.recipes.add(FontFile.word(0, 69, 0, 70));
        return file.loaded();
    }

    private static void tags() {
        CHECK.sentence("Terms", "TAGS: 0 nothing; 1 its program begins at the place rest of the program; "
            + "2 the next larger character is rest; 3 its recipe is at the place rest");
        FontMetrics x = tagged();
        int[] tags = {0, 1, 2, 3, 0, 0};
        int[] rests = {0, 1, 70, 1, 1, 0};
        for (int i = 0; i < 6; i++) {
            int c = 65 + i;
            CHECK.due("of(" + c + ", 4)", x.of(c, 4), tags[i]);
            CHECK.due("of(" + c + ", 5)", x.of(c, 5), rests[i]);
            CHECK.due("ask(" + c + ", 65)", x.ask(c, 65), tags[i] == 1 ? 69 : NONE);
            if (tags[i] == 3) {
                CHECK.due("part(" + c + ", 3)", x.part(c, 3), 70);
            } else {
                CHECK.noIndex("part(" + c + ", 3)", () -> x.part(c, 3));
            }
        }
    }

    private static FontFile program(int nl) {
        FontFile file = FontFile.plain(65, 70);
        for (int i = 0; i < nl; i++) {
            file.step(128, 65, 0, 65);
        }
        return file;
    }

    private static void edges(String what, FontFile file, int edge, int program) {
        FontMetrics x = file.loaded();
        CHECK.due("about(5): " + what, x.about(5), edge);
        CHECK.due("about(6): " + what, x.about(6), program);
    }

    private static void edgeOfTheFirstWord() {
        CHECK.sentence("Terms", "If the first one's skip is 255, its next is the EDGE (else there is none)");
        edges("no word", program(0), NONE, 0);
        for (int skip : new int[] {0, 127, 128, 129, 200, 254, 255}) {
            // 65 is a next for every skip, and 0 a place for every target
            FontFile file = program(130);
            file.program.set(0, FontFile.word(skip, 65, 0, skip > 128 ? 0 : 65));
            edges("skip " + skip + " first", file, skip == 255 ? 65 : NONE, 0);
        }
        for (int next : new int[] {0, 1, 127, 128, 255}) {
            FontFile file = program(3);
            file.program.set(0, FontFile.word(255, next, 0, 0));
            edges("next " + next, file, next, 0);
        }
        FontFile second = program(3);
        second.program.set(1, FontFile.word(255, 66, 0, 0));
        edges("skip 255 second", second, NONE, 0);
    }

    private static void edgesProgramOfTheLastWord() {
        CHECK.sentence("Terms", "if the last one's skip is 255, THE EDGE'S PROGRAM begins at 256 * c + d of that "
            + "(else there is none)");
        for (int skip : new int[] {128, 129, 200, 254, 255}) {
            FontFile file = program(3);
            file.program.set(2, FontFile.word(skip, 65, 0, skip > 128 ? 0 : 65));
            edges("skip " + skip + " last", file, NONE, skip == 255 ? 1 : 0);
            CHECK.due("ask(256, 65)", file.loaded().ask(256, 65), skip == 255 ? 65 : NONE);
        }
        FontFile before = program(3);
        before.program.set(1, FontFile.word(255, 65, 0, 0));
        edges("skip 255 but one last", before, NONE, 0);
        edges("skip 255 alone", program(0).step(255, 9, 0, 0), 9, 1);
        edges("skip 254 alone", program(0).step(254, 9, 0, 0), NONE, 0);
        for (int start : new int[] {0, 1, 255, 256, 257}) {
            FontFile file = program(300);
            file.program.set(start, FontFile.word(128, 66, 1, 70));
            file.step(255, 0, start >> 8, start & 255);
            edges("start " + start, file, NONE, 1);
            CHECK.due("ask(256, 66) of start " + start, file.loaded().ask(256, 66), 256 + 70);
            CHECK.due("ask(256, 65) of start " + start, file.loaded().ask(256, 65), NONE);
        }
    }

    private static void promise5What() {
        CHECK.sentence("Promise 5", "IndexOutOfBoundsException for another what");
        FontFile file = FontFile.plain(65, 90).step(255, 7, 0, 0);
        file.parameters.add(1);
        FontMetrics x = new FontMetrics();
        file.loadInto(x, 70000);
        int[] want = {65, 90, 70000, 655360, 1, 7, 1};
        for (int what = 0; what <= 6; what++) {
            CHECK.due("about(" + what + ")", x.about(what), want[what]);
        }
        for (int what : new int[] {-1, -2, 7, 8, 256, LEAST, LARGEST}) {
            CHECK.noIndex("about(" + what + ")", () -> x.about(what));
        }
    }

    private static void promise5BcAndEc() {
        CHECK.sentence("Promise 5", "Of the font: 0 bc, 1 ec");
        int[][] fonts = {{0, 0}, {0, 255}, {255, 255}, {1, 0}, {256, 255}, {66, 65}};
        for (int[] font : fonts) {
            FontMetrics x = FontFile.plain(font[0], font[1]).loaded();
            CHECK.due("about(0) of " + font[0] + " .. " + font[1], x.about(0), font[0]);
            CHECK.due("about(1) of " + font[0] + " .. " + font[1], x.about(1), font[1]);
        }
        // bc and ec are the file's, whether the characters are there or not
        FontMetrics gone = FontFile.plain(65, 70).gone(65).gone(70).loaded();
        CHECK.due("about(0) of one that is not there", gone.about(0), 65);
        CHECK.due("about(1) of one that is not there", gone.about(1), 70);
    }

    private static void promise5Sizes() {
        CHECK.sentence("Promise 5", "2 its size, 3 its design size as a size");
        FontMetrics x = FontFile.plain(65, 70).loaded();
        for (int size : new int[] {1, 655359, 655360, 655361, 8388608, 134217727}) {
            CHECK.due("load(" + size + ")", x.load(size), 0);
            CHECK.due("about(2) of load(" + size + ")", x.about(2), size);
            CHECK.due("about(3) of load(" + size + ")", x.about(3), 655360);
        }
        CHECK.due("load(0)", x.load(0), 0);
        CHECK.due("about(2) of load(0)", x.about(2), 655360);
    }

    private static void promise5Parameters() {
        CHECK.sentence("Promise 5", "4 np");
        FontFile file = FontFile.plain(65, 66);
        for (int np = 0; np < 4; np++) {
            CHECK.due("about(4)", file.loaded().about(4), np);
            file.parameters.add(0);
        }
    }

    private static void promise5NoEdge() {
        CHECK.sentence("Promise 5", "5 the edge (NONE for none), 6: 1 if there is the edge's program, else 0");
        edges("neither", program(1), NONE, 0);
        edges("the edge", program(0).step(255, 0, 0, 0).step(128, 65, 0, 65), 0, 0);
        edges("its program", program(1).step(255, 0, 0, 0), NONE, 1);
        edges("both", program(0).step(255, 255, 0, 1).step(255, 0, 0, 1), 255, 1);
    }

    private static void promise5NoFont() {
        CHECK.sentence("Promise 5", "IllegalStateException when none is loaded");
        FontMetrics x = new FontMetrics();
        for (int what = -1; what <= 7; what++) {
            int w = what;
            CHECK.noFont("about(" + what + ") without a font", () -> x.about(w));
        }
        FontFile.plain(65, 66).loadInto(x, 0);
        CHECK.due("about(0) with one", x.about(0), 65);
        CHECK.noIndex("about(7) with one", () -> x.about(7));
    }

    private static void promise6NoFont() {
        CHECK.sentence("Promise 6", "Whether a font is loaded");
        FontMetrics x = new FontMetrics();
        FontFile.feed(x, FontFile.plain(0, 255).bytes());
        for (int c : new int[] {LEAST, -1, 0, 65, 255, 256, LARGEST}) {
            CHECK.due("has(" + c + ") before load", x.has(c), false);
        }
        CHECK.noArgument("load(-1)", () -> x.load(-1));
        CHECK.due("has(0) behind a load that throws", x.has(0), false);
        x.load(0);
        CHECK.due("has(0) behind load", x.has(0), true);
        CHECK.due("has(255) behind load", x.has(255), true);
    }

    private static void promise6There() {
        CHECK.sentence("Promise 6", "and character c is there");
        FontMetrics x = FontFile.plain(65, 70).gone(67).loaded();
        for (int c = -2; c < 300; c++) {
            CHECK.due("has(" + c + ")", x.has(c), c >= 65 && c <= 70 && c != 67);
        }
    }

    private static FontMetrics measured() {
        FontFile file = places().gone(68);
        file.characters[66] = FontFile.word(5, 0x67, 4 * 8, 9);
        FontMetrics x = new FontMetrics();
        file.loadInto(x, 1048576);
        return x;
    }

    private static void promise7What() {
        CHECK.sentence("Promise 7", "IndexOutOfBoundsException .. for another what");
        FontMetrics x = measured();
        int[] want = {5000, 12000, 21000, 32000, 0, 9};
        for (int what = 0; what <= 5; what++) {
            CHECK.due("of(66, " + what + ")", x.of(66, what), want[what]);
        }
        for (int what : new int[] {-1, -2, 6, 7, 256, LEAST, LARGEST}) {
            CHECK.noIndex("of(66, " + what + ")", () -> x.of(66, what));
        }
    }

    private static void promise7NotThere() {
        CHECK.sentence("Promise 7", "IndexOutOfBoundsException when it is not there");
        FontMetrics x = measured();
        for (int what = -1; what <= 6; what++) {
            int w = what;
            for (int c : new int[] {LEAST, -1, 0, 64, 68, 71, 255, 256, 66 + 256, LARGEST}) {
                CHECK.noIndex("of(" + c + ", " + what + ")", () -> x.of(c, w));
            }
        }
        CHECK.due("of(65, 0)", x.of(65, 0), 1000);
        CHECK.due("of(70, 0)", x.of(70, 0), 1000);
        FontMetrics none = FontFile.plain(256, 255).loaded();
        CHECK.noIndex("of(255, 0) of no characters", () -> none.of(255, 0));
        CHECK.noIndex("of(256, 0) of no characters", () -> none.of(256, 0));
    }

    private static void promise7NoFont() {
        CHECK.sentence("Promise 7", "IllegalStateException when no font is loaded");
        FontMetrics x = new FontMetrics();
        CHECK.noFont("of(65, 0)", () -> x.of(65, 0));
        CHECK.noFont("of(-1, 0)", () -> x.of(-1, 0));
        CHECK.noFont("of(65, 6)", () -> x.of(65, 6));
        FontFile.plain(65, 66).loadInto(x, 0);
        CHECK.due("of(65, 0) with one", x.of(65, 0), 327680);
    }

    private static void promise8Byte() {
        CHECK.sentence("Promise 8", "IndexOutOfBoundsException when .. k is not 0 .. 3");
        FontMetrics x = tagged();
        int[] want = {0, 69, 0, 70};
        for (int k = 0; k <= 3; k++) {
            CHECK.due("part(68, " + k + ")", x.part(68, k), want[k]);
        }
        for (int k : new int[] {-1, -2, 4, 5, 256, LEAST, LARGEST}) {
            CHECK.noIndex("part(68, " + k + ")", () -> x.part(68, k));
        }
    }

    private static void promise8NotThere() {
        CHECK.sentence("Promise 8", "IndexOutOfBoundsException when it is not there");
        FontFile file = FontFile.plain(65, 70).tagged(65, 3, 0).tagged(70, 3, 0);
        file.characters[67] = FontFile.word(0, 0, 3, 0);
        file.recipes.add(FontFile.word(0, 0, 0, 66));
        FontMetrics x = file.loaded();
        for (int c : new int[] {LEAST, -1, 0, 64, 67, 71, 255, 256, 65 + 256, LARGEST}) {
            CHECK.noIndex("part(" + c + ", 3)", () -> x.part(c, 3));
        }
        CHECK.due("part(65, 3)", x.part(65, 3), 66);
        CHECK.due("part(70, 3)", x.part(70, 3), 66);
    }

    /** Each character names place 0 or 1, at which there is a recipe. */
    private static void promise8HasNone() {
        CHECK.sentence("Promise 8", "IndexOutOfBoundsException when it .. has none");
        FontMetrics x = tagged();
        for (int c : new int[] {65, 66, 67, 69, 70}) {
            for (int k = -1; k <= 4; k++) {
                int at = k;
                CHECK.noIndex("part(" + c + ", " + k + ")", () -> x.part(c, at));
            }
        }
        CHECK.due("part(68, 1)", x.part(68, 1), 69);
    }

    private static void promise8NoFont() {
        CHECK.sentence("Promise 8", "IllegalStateException when no font is loaded");
        FontMetrics x = new FontMetrics();
        CHECK.noFont("part(65, 0)", () -> x.part(65, 0));
        CHECK.noFont("part(-1, 0)", () -> x.part(-1, 0));
        CHECK.noFont("part(65, 4)", () -> x.part(65, 4));
    }

    private static void promise9From1On() {
        CHECK.sentence("Promise 9", "Parameter i, from 1 on .. IndexOutOfBoundsException when there is none");
        FontFile file = FontFile.plain(65, 66);
        for (int np = 0; np <= 9; np++) {
            FontMetrics x = new FontMetrics();
            CHECK.due("load", file.loadInto(x, 1048576), 0);
            for (int i = 1; i <= np; i++) {
                CHECK.due("parameter(" + i + ") of " + np, x.parameter(i), i == 1 ? 1 : 16 * i);
            }
            for (int i : new int[] {LEAST, LEAST + 1, -1, 0, np + 1, np + 2, LARGEST}) {
                CHECK.noIndex("parameter(" + i + ") of " + np, () -> x.parameter(i));
            }
            file.parameters.add(16 * (np + 1));
        }
    }

    private static void promise9First() {
        CHECK.sentence("Promise 9", "the first one as its 32 bits with a sign divided by 16 (rounded down)");
        int[] words = {0, 1, 15, 16, 17, LARGEST, LEAST, LEAST + 15, LEAST + 16, -1, -15, -16, -17, -32, -33};
        int[] want = {0, 0, 0, 1, 1, 134217727, -134217728, -134217728, -134217727, -1, -1, -1, -2, -2, -3};
        for (int i = 0; i < words.length; i++) {
            FontFile file = FontFile.plain(65, 66);
            file.parameters.add(words[i]);
            for (int size : new int[] {0, 1, 134217727}) {
                FontMetrics x = new FontMetrics();
                file.loadInto(x, size);
                CHECK.due("parameter(1) of " + words[i] + " at " + size, x.parameter(1), want[i]);
            }
        }
    }

    private static void promise9Others() {
        CHECK.sentence("Promise 9", "the others scaled");
        FontFile file = FontFile.plain(65, 66);
        file.parameters.add(0x00080000);
        file.parameters.add(0x00080000);
        file.parameters.add(0xFFFF0000);
        FontMetrics x = file.loaded();
        CHECK.due("parameter(1)", x.parameter(1), 32768);
        CHECK.due("parameter(2)", x.parameter(2), 327680);
        CHECK.due("parameter(3)", x.parameter(3), -40960);
    }

    private static void promise9NoFont() {
        CHECK.sentence("Promise 9", "IllegalStateException when no font is loaded");
        FontMetrics x = new FontMetrics();
        for (int i : new int[] {LEAST, -1, 0, 1, 2, LARGEST}) {
            CHECK.noFont("parameter(" + i + ")", () -> x.parameter(i));
        }
    }
}
