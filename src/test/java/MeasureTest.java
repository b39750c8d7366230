/** Promises 5 to 9: about, has, of, part and parameter. */
public final class MeasureTest {
    private static final Check CHECK = new Check();
    private static final int LEAST = Integer.MIN_VALUE;
    private static final int LARGEST = Integer.MAX_VALUE;

    public static void main(String[] args) {
        withoutFont();
        about();
        aboutEdges();
        has();
        of();
        scaled();
        part();
        parameter();
        CHECK.end("MeasureTest");
    }

    /** The first exception named counts, so a wrong index makes no difference without a font. */
    private static void withoutFont() {
        FontMetrics x = new FontMetrics();
        for (int i : new int[] {0, 1, 7, -1, 300}) {
            CHECK.noFont("about(" + i + ") without a font", () -> x.about(i));
            CHECK.noFont("of(" + i + ", 0) without a font", () -> x.of(i, 0));
            CHECK.noFont("of(0, " + i + ") without a font", () -> x.of(0, i));
            CHECK.noFont("part(0, " + i + ") without a font", () -> x.part(0, i));
            CHECK.noFont("parameter(" + i + ") without a font", () -> x.parameter(i));
            CHECK.due("has(" + i + ") without a font", x.has(i), false);
        }
    }

    private static void about() {
        FontFile file = FontFile.plain(65, 90);
        file.parameters.add(1);
        file.parameters.add(2);
        FontMetrics x = new FontMetrics();
        CHECK.due("load(70000)", file.loadInto(x, 70000), 0);
        int[] want = {65, 90, 70000, 655360, 2, FontMetrics.NONE, 0};
        for (int what = 0; what < want.length; what++) {
            CHECK.due("about(" + what + ")", x.about(what), want[what]);
        }
        for (int what : new int[] {-1, 7, LEAST, LARGEST}) {
            CHECK.noIndex("about(" + what + ")", () -> x.about(what));
        }
        FontMetrics none = FontFile.plain(256, 255).loaded();
        CHECK.due("about(0) of no characters", none.about(0), 256);
        CHECK.due("about(1) of no characters", none.about(1), 255);
        CHECK.due("about(4) of no parameters", none.about(4), 0);
    }

    private static void edges(String what, FontFile file, int edge, int program) {
        FontMetrics x = file.loaded();
        CHECK.due("about(5): " + what, x.about(5), edge);
        CHECK.due("about(6): " + what, x.about(6), program);
    }

    private static void aboutEdges() {
        edges("no program", FontFile.plain(65, 70), -1, 0);
        edges("neither", FontFile.plain(65, 70).step(254, 9, 0, 0).step(254, 9, 0, 0), -1, 0);
        edges("the first word", FontFile.plain(65, 70).step(255, 200, 0, 0).step(128, 65, 0, 65), 200, 0);
        edges("the last word", FontFile.plain(65, 70).step(128, 65, 0, 65).step(255, 200, 0, 0), -1, 1);
        edges("both", FontFile.plain(65, 70).step(255, 0, 0, 0).step(255, 7, 0, 0), 0, 1);
        edges("one word", FontFile.plain(65, 70).step(255, 255, 0, 0), 255, 1);
        FontFile middle = FontFile.plain(65, 70).step(128, 65, 0, 65).step(255, 1, 0, 0).step(128, 65, 0, 65);
        edges("a word between", middle, -1, 0);
    }

    private static void has() {
        FontMetrics x = FontFile.plain(65, 70).gone(67).loaded();
        for (int c : new int[] {65, 66, 68, 69, 70}) {
            CHECK.due("has(" + c + ")", x.has(c), true);
        }
        for (int c : new int[] {64, 71, 67, 0, -1, 255, 256, 65 + 256, 65 - 256, LEAST, LARGEST}) {
            CHECK.due("has(" + c + ")", x.has(c), false);
        }
        FontMetrics all = FontFile.plain(0, 255).loaded();
        CHECK.due("has(0) of all", all.has(0), true);
        CHECK.due("has(255) of all", all.has(255), true);
        CHECK.due("has(256) of all", all.has(256), false);
        CHECK.due("has(-1) of all", all.has(-1), false);
        FontMetrics none = FontFile.plain(66, 65).loaded();
        CHECK.due("has(65) of none", none.has(65), false);
        CHECK.due("has(66) of none", none.has(66), false);
    }

    private static void of() {
        FontFile file = FontFile.plain(65, 70).gone(67);
        for (int i = 1; i < 64; i++) {
            file.italics.add(4 * i);
        }
        for (int i = 1; i < 16; i++) {
            file.heights.add(i);
            file.depths.add(1000 + i);
        }
        while (file.widths.size() < 256) {
            file.widths.add(5000 + file.widths.size());
        }
        file.step(128, 65, 0, 65);
        file.recipes.add(65);
        file.characters[65] = FontFile.word(255, 0xF0, 0xFC, 9);
        file.characters[66] = FontFile.word(128, 0x0F, 0x01, 0);
        file.characters[68] = FontFile.word(3, 0x73, 0x82, 255 - 189);
        file.characters[69] = FontFile.word(4, 0, 0x03, 0);
        FontMetrics x = new FontMetrics();
        CHECK.due("load(1048576)", file.loadInto(x, 1048576), 0);
        all(x, 65, 5255, 15, 0, 252, 0, 9);
        all(x, 66, 5128, 0, 1015, 0, 1, 0);
        all(x, 68, 5003, 7, 1003, 128, 2, 66);
        all(x, 69, 5004, 0, 0, 0, 3, 0);
        for (int c : new int[] {64, 71, 67, -1, 256, LEAST, LARGEST}) {
            for (int what = 0; what < 6; what++) {
                int w = what;
                CHECK.noIndex("of(" + c + ", " + what + ")", () -> x.of(c, w));
            }
        }
        for (int what : new int[] {-1, 6, LEAST, LARGEST}) {
            CHECK.noIndex("of(65, " + what + ")", () -> x.of(65, what));
        }
    }

    private static void all(FontMetrics x, int c, int... want) {
        for (int what = 0; what < want.length; what++) {
            CHECK.due("of(" + c + ", " + what + ")", x.of(c, what), want[what]);
        }
    }

    /** Words whose values at a size were worked out by hand from the term SCALED. */
    private static void scaled() {
        width(0x00080000, 655360, 327680);
        width(0x00055555, 655360, 218453);
        width(0xFFFF0000, 655360, -40960);
        width(0x00000001, 1, 0);
        width(0xFFFFFFFF, 1, -1);
        width(0xFF000000, 1, -16);
        width(0xFFFFFFFF, 1048576, -1);
        width(0x00FFFFFF, 1048576, 16777215);
        width(0xFF000000, 1048576, -16777216);
        width(0x00FFFFFF, 8388607, 134217704);
        width(0x00055555, 8388607, 2796199);
        width(0x00100000, 8388609, 8388608);
        width(0x00100000, 8388608, 8388608);
        width(0x00100000, 16777215, 16777214);
        width(0x00100000, 16777216, 16777216);
        width(0x00100000, 16777219, 16777216);
        width(0x00100000, 16777220, 16777220);
        width(0x00100000, 67108863, 67108856);
        width(0x00100000, 134217727, 134217712);
        width(0x00FFFFFF, 134217727, 2147483264);
        width(0xFF000000, 134217727, -2147483392);
        width(0xFFFFFFFF, 134217727, -128);
        width(0x00000001, 134217727, 127);
    }

    private static void width(int word, int size, int want) {
        FontFile file = FontFile.plain(65, 66);
        file.widths.set(1, word);
        FontMetrics x = new FontMetrics();
        file.loadInto(x, size);
        CHECK.due(Integer.toHexString(word) + " scaled by " + size, x.of(66, 0), want);
    }

    private static void part() {
        FontFile file = FontFile.plain(65, 70).gone(67).tagged(65, 3, 1).tagged(66, 3, 0).tagged(68, 2, 66);
        file.recipes.add(FontFile.word(0, 66, 0, 70));
        file.recipes.add(FontFile.word(65, 66, 68, 69));
        file.step(128, 65, 0, 65);
        file.tagged(69, 1, 0);
        FontMetrics x = file.loaded();
        int[] first = {0, 66, 0, 70};
        int[] second = {65, 66, 68, 69};
        for (int k = 0; k < 4; k++) {
            CHECK.due("part(66, " + k + ")", x.part(66, k), first[k]);
            CHECK.due("part(65, " + k + ")", x.part(65, k), second[k]);
        }
        for (int k : new int[] {-1, 4, LEAST, LARGEST}) {
            CHECK.noIndex("part(65, " + k + ")", () -> x.part(65, k));
        }
        for (int c : new int[] {64, 67, 68, 69, 70, 71, 256, -1, LEAST, LARGEST}) {
            CHECK.noIndex("part(" + c + ", 0)", () -> x.part(c, 0));
        }
    }

    private static void parameter() {
        FontFile file = FontFile.plain(65, 66);
        FontMetrics none = file.loaded();
        CHECK.noIndex("parameter(1) of none", () -> none.parameter(1));
        int[] slants = {0, 15, 16, 31, -1, -16, -17, 0x12345678, LARGEST, LEAST};
        for (int slant : slants) {
            file.parameters.clear();
            file.parameters.add(slant);
            file.parameters.add(0xFFFF0000);
            file.parameters.add(0x00080000);
            FontMetrics x = file.loaded();
            CHECK.due("parameter(1) of " + slant, x.parameter(1), Math.floorDiv(slant, 16));
            CHECK.due("parameter(2)", x.parameter(2), -40960);
            CHECK.due("parameter(3)", x.parameter(3), 327680);
            for (int i : new int[] {0, 4, -1, LEAST, LARGEST}) {
                CHECK.noIndex("parameter(" + i + ")", () -> x.parameter(i));
            }
        }
    }
}
