import java.util.function.Supplier;

/** The boundary cases of promise 4, and of the terms SIZE and SCALED. */
public final class LoadBoundaryTest {
    private static final Check CHECK = new Check();
    private static final int LARGEST_SIZE = 134217727;

    public static void main(String[] args) {
        promise4SizeFrom0To134217727();
        promise4SizeBeforeFault();
        promise4DesignSize();
        promise4LargestDesignSize();
        promise4LeastSizeIsNoDesignSize();
        promise4FontOfTheFile();
        promise4FileStays();
        promise4FaultChangesNothing();
        promise4FaultLeavesNoFont();
        promise4NoItems();
        promise4RowStays();
        aPointIs65536();
        scaledHalvings();
        scaledNotAbove();
        scaledLess();
        scaledEverywhere();
        CHECK.end("LoadBoundaryTest");
    }

    private static void promise4SizeFrom0To134217727() {
        CHECK.sentence("Promise 4", "IllegalArgumentException when size is not 0 .. 134217727");
        FontMetrics x = FontFile.plain(65, 66).loaded();
        for (int size : new int[] {-1, -2, -LARGEST_SIZE, Integer.MIN_VALUE, Integer.MIN_VALUE + 1}) {
            CHECK.noArgument("load(" + size + ")", () -> x.load(size));
        }
        for (int size : new int[] {LARGEST_SIZE + 1, LARGEST_SIZE + 2, 1 << 28, Integer.MAX_VALUE}) {
            CHECK.noArgument("load(" + size + ")", () -> x.load(size));
        }
        for (int size : new int[] {1, 2, LARGEST_SIZE - 1, LARGEST_SIZE}) {
            CHECK.due("load(" + size + ")", x.load(size), 0);
            CHECK.due("about(2) of load(" + size + ")", x.about(2), size);
        }
        CHECK.due("load(0)", x.load(0), 0);
        CHECK.due("about(2) of load(0)", x.about(2), 655360);
    }

    /** The exception does not wait for the file to be looked at. */
    private static void promise4SizeBeforeFault() {
        CHECK.sentence("Promise 4", "IllegalArgumentException when size is not 0 .. 134217727 (of a file with a fault)");
        FontMetrics x = new FontMetrics();
        CHECK.due("load(0) of no file", x.load(0), 1);
        CHECK.due("load(134217727) of no file", x.load(LARGEST_SIZE), 1);
        CHECK.noArgument("load(-1) of no file", () -> x.load(-1));
        CHECK.noArgument("load(134217728) of no file", () -> x.load(LARGEST_SIZE + 1));
    }

    private static void promise4DesignSize() {
        CHECK.sentence("Promise 4", "(0: its design size, as a size: 16 times less, rounded down)");
        designSize(1048576, 65536);
        designSize(1048576 + 1, 65536);
        designSize(1048576 + 15, 65536);
        designSize(1048576 + 16, 65537);
        designSize(1048576 + 31, 65537);
        designSize(0x01000000 - 1, 1048575);
        designSize(0x01000000, 1048576);
        designSize(0x12345678, 0x01234567);
    }

    private static void promise4LargestDesignSize() {
        CHECK.sentence("Promise 4", "(A design size of more than that is taken as 134217727.)");
        designSize(Integer.MAX_VALUE - 16, LARGEST_SIZE - 1);
        designSize(Integer.MAX_VALUE - 15, LARGEST_SIZE);
        designSize(Integer.MAX_VALUE, LARGEST_SIZE);
    }

    private static void designSize(int word, int want) {
        FontFile file = FontFile.plain(65, 66);
        file.head.set(1, word);
        FontMetrics x = new FontMetrics();
        CHECK.due("load(0) of " + word, file.loadInto(x, 0), 0);
        CHECK.due("about(2) of " + word, x.about(2), want);
        CHECK.due("about(3) of " + word, x.about(3), want);
    }

    private static void promise4LeastSizeIsNoDesignSize() {
        CHECK.sentence("Promise 4", "at a size (0: its design size ..)");
        FontMetrics x = FontFile.plain(65, 66).loaded();
        CHECK.due("of(65, 0) at the design size", x.of(65, 0), 327680);
        CHECK.due("load(1)", x.load(1), 0);
        CHECK.due("about(2) at 1", x.about(2), 1);
        CHECK.due("about(3) at 1", x.about(3), 655360);
        CHECK.due("of(65, 0) at 1", x.of(65, 0), 0);
        CHECK.due("load(2)", x.load(2), 0);
        CHECK.due("of(65, 0) at 2", x.of(65, 0), 1);
        CHECK.due("load(0) again", x.load(0), 0);
        CHECK.due("of(65, 0) at the design size again", x.of(65, 0), 327680);
    }

    private static void promise4FontOfTheFile() {
        CHECK.sentence("Promise 4", "THE FONT becomes that of the file");
        FontMetrics x = FontFile.plain(65, 70).loaded();
        CHECK.due("a shorter font", FontFile.plain(66, 67).tagged(66, 2, 67).loadInto(x, 5), 0);
        CHECK.due("has(65)", x.has(65), false);
        CHECK.due("has(66)", x.has(66), true);
        CHECK.due("has(67)", x.has(67), true);
        CHECK.due("has(68)", x.has(68), false);
        CHECK.due("of(66, 4)", x.of(66, 4), 2);
        CHECK.due("about(2)", x.about(2), 5);
        CHECK.due("no characters", FontFile.plain(256, 255).loadInto(x, 6), 0);
        CHECK.due("has(66) of no characters", x.has(66), false);
        CHECK.due("a longer font", FontFile.plain(0, 255).loadInto(x, 7), 0);
        CHECK.due("has(0) of all", x.has(0), true);
        CHECK.due("has(255) of all", x.has(255), true);
        CHECK.due("of(66, 4) of all", x.of(66, 4), 0);
    }

    private static void promise4FileStays() {
        CHECK.sentence("Promise 4", "which stays");
        FontMetrics x = new FontMetrics();
        FontFile file = FontFile.plain(65, 66);
        int length = file.bytes().length;
        CHECK.due("load(0)", file.loadInto(x, 0), 0);
        CHECK.due("keep of a byte more", x.keep(length + 1), false);
        CHECK.due("keep of all", x.keep(length), true);
        CHECK.due("load(0) again", x.load(0), 0);
        CHECK.due("feed(0, 1)", x.feed(0, 1), true);
        CHECK.due("load(0) of a byte more", x.load(0), 4);
        CHECK.due("keep of a byte more", x.keep(length + 1), true);
        CHECK.due("keep of all", x.keep(length), true);
        CHECK.due("load(0) of all", x.load(0), 0);
        x.keep(0);
        CHECK.due("the font does not go with the file", x.of(66, 0), 327680);
        CHECK.due("load(0) of none", x.load(0), 1);
        CHECK.due("nor with a fault", x.of(66, 0), 327680);
    }

    /** A font of 65 .. 70 with items and a row that waits, and behind it a file with a fault. */
    private static FontMetrics waiting(int[] bytes) {
        FontFile file = FontFile.plain(65, 70).tagged(65, 1, 0).tagged(67, 3, 0).step(128, 66, 128, 0);
        file.kerns.add(0x00010000);
        file.recipes.add(66);
        file.parameters.add(99);
        file.parameters.add(1000);
        FontMetrics x = new FontMetrics();
        file.loadInto(x, 80000);
        Rows.add(x, 65, 66);
        x.set();
        Rows.add(x, 67, 65, 66);
        FontFile.feed(x, bytes);
        return x;
    }

    private static int[] withFault(int fault) {
        FontFile file = FontFile.plain(64, 71).tagged(66, 2, 67);
        file.parameters.add(0);
        file.parameters.add(0);
        switch (fault) {
            case 1: return file.withNumber(11, 32768);
            case 2: return file.withNumber(3, 256);
            case 3: return file.withNumber(1, 1);
            case 4: return file.withNumber(0, 1);
            case 5: file.head.set(1, 1048575); break;
            case 6: file.measured(71, 3, 0, 0, 0); break;
            case 7: file.tagged(71, 1, 0); break;
            case 8: file.widths.set(0, 1); break;
            case 9: file.step(0, 65, 0, 65); break;
            case 10: file.recipes.add(72); break;
            case 11: file.parameters.set(1, 0x01000000); break;
            default: break;
        }
        return file.bytes();
    }

    private static void promise4FaultChangesNothing() {
        CHECK.sentence("Promise 4", "or the fault, and nothing changes");
        for (int fault = 1; fault <= 11; fault++) {
            int[] bytes = withFault(fault);
            Supplier<FontMetrics> made = () -> waiting(bytes);
            FontMetrics x = made.get();
            CHECK.due("load(70001) of a file with a fault", x.load(70001), fault);
            CHECK.due("load(70001) of it again", x.load(70001), fault);
            CHECK.same("fault " + fault, Readout.of(x, bytes.length), Readout.of(made.get(), bytes.length));
        }
        CHECK.due("load of the file without a fault", waiting(withFault(0)).load(0), 0);
    }

    private static void promise4FaultLeavesNoFont() {
        CHECK.sentence("Promise 4", "or the fault, and nothing changes (where there was no font)");
        for (int fault = 1; fault <= 11; fault++) {
            FontMetrics x = new FontMetrics();
            FontFile.feed(x, withFault(fault));
            CHECK.due("load(0)", x.load(0), fault);
            CHECK.noFont("about(0) behind fault " + fault, () -> x.about(0));
            CHECK.noFont("of(66, 0) behind fault " + fault, () -> x.of(66, 0));
            CHECK.noFont("set() behind fault " + fault, () -> x.set());
            CHECK.due("has(66) behind fault " + fault, x.has(66), false);
        }
    }

    private static void promise4NoItems() {
        CHECK.sentence("Promise 4", "No items are set then");
        FontMetrics x = FontFile.plain(65, 70).loaded();
        Rows.add(x, 65, 66);
        CHECK.due("set()", x.set(), 2);
        CHECK.due("item(1) before load", x.item(1), 66);
        CHECK.due("load(0) of the same file", x.load(0), 0);
        CHECK.noIndex("item(0) behind load", () -> x.item(0));
        CHECK.noIndex("isKern(0) behind load", () -> x.isKern(0));
        CHECK.due("total() behind load", x.total(), 0);
    }

    private static void promise4RowStays() {
        CHECK.sentence("Promise 4", "THE FONT becomes that of the file (and the row is none of it)");
        FontMetrics x = FontFile.plain(65, 70).loaded();
        for (int i = 0; i < 64; i++) {
            x.add(66);
        }
        CHECK.due("load(0)", x.load(0), 0);
        CHECK.due("add(66) to a full row behind load", x.add(66), false);
        CHECK.due("set() of it", x.set(), 64);
        CHECK.due("item(63)", x.item(63), 66);
    }

    private static void aPointIs65536() {
        CHECK.sentence("Terms", "a SIZE is an int, of which 65536 are a point (and 2^20 of the design size)");
        designSize(FontFile.POINT, 65536);
        designSize(12 * FontFile.POINT, 12 * 65536);
        designSize(2047 * FontFile.POINT, 2047 * 65536);
    }

    private static void width(int word, int size, int want) {
        FontFile file = FontFile.plain(65, 66);
        file.widths.set(1, word);
        FontMetrics x = new FontMetrics();
        CHECK.due("load(" + size + ")", file.loadInto(x, size), 0);
        CHECK.due(Integer.toHexString(word) + " scaled by " + size, x.of(66, 0), want);
    }

    /** The word 2^20 scaled is 2^k * z, so the bits that the halvings lose are to be seen. */
    private static void scaledHalvings() {
        CHECK.sentence("Terms", "how often s must be halved (rounded down) to be below 8388608 (0 if it is)");
        int one = 0x00100000;
        width(one, 1, 1);
        width(one, 8388606, 8388606);
        width(one, 8388607, 8388607);
        width(one, 8388608, 8388608);
        width(one, 8388609, 8388608);
        width(one, 8388610, 8388610);
        width(one, 16777215, 16777214);
        width(one, 16777216, 16777216);
        width(one, 16777219, 16777216);
        width(one, 16777220, 16777220);
        width(one, 33554431, 33554428);
        width(one, 33554432, 33554432);
        width(one, 33554439, 33554432);
        width(one, 33554440, 33554440);
        width(one, 67108863, 67108856);
        width(one, 67108864, 67108864);
        width(one, 67108879, 67108864);
        width(one, 67108880, 67108880);
        width(one, LARGEST_SIZE - 16, LARGEST_SIZE - 31);
        width(one, LARGEST_SIZE - 15, LARGEST_SIZE - 15);
        width(one, LARGEST_SIZE, LARGEST_SIZE - 15);
    }

    private static void scaledNotAbove() {
        CHECK.sentence("Terms", "the greatest integer that is not above");
        width(1, 1048575, 0);
        width(1, 1048576, 1);
        width(1, 2097151, 1);
        width(1, 2097152, 2);
        width(1048575, 1, 0);
        width(1048576, 1, 1);
        width(0x00FFFFFF, 1, 15);
        width(0xFFFFFFFF, 1, -1);
        width(0xFFF00000, 1, -1);
        width(0xFFEFFFFF, 1, -2);
        width(0xFF000001, 1, -16);
        width(0xFF000000, 1, -16);
        width(0xFFFFFFFF, 1048575, -1);
        width(0xFFFFFFFF, 1048576, -1);
        width(0xFFFFFFFF, 1048577, -2);
        // 3 * 4194305 = 12582915 at 2^19, so 24 and some more
        width(3, 8388611, 24);
        width(3, 8388607, 23);
        width(0xFFFFFFFD, 8388611, -25);
        width(0xFFFFFFFD, 8388607, -24);
    }

    private static void scaledLess() {
        CHECK.sentence("Terms", "and if a is 255, less 2^(4 + k) * z");
        width(0x00000000, 655360, 0);
        width(0xFF000000, 655360, -16 * 655360);
        width(0xFF000000, 8388607, -16 * 8388607);
        width(0xFF000000, 8388608, -32 * 4194304);
        width(0xFF000000, 8388609, -32 * 4194304);
        width(0xFF000000, 16777215, -32 * 8388607);
        width(0xFF000000, 16777216, -64 * 4194304);
        width(0xFF000000, 33554432, -128 * 4194304);
        width(0xFF000000, 67108863, -128 * 8388607);
        width(0xFF000000, 67108864, -256 * 4194304);
        width(0xFF000000, LARGEST_SIZE, -256 * 8388607);
        width(0x00FFFFFF, LARGEST_SIZE, 2147483264);
        width(0xFFFFFFFF, LARGEST_SIZE, -128);
    }

    /** Heights, depths, italics, kerns and all parameters but the first are scaled as widths are. */
    private static void scaledEverywhere() {
        CHECK.sentence("Terms", "The word SCALED by a size s (wherever a word is scaled)");
        int[] words = {0xFF000000, 0x00FFFFFF, 3, 0xFFFFFFFD};
        int[] small = {-16 * 8388607, 134217704, 23, -24};
        int[] large = {-256 * 8388607, 2147483264, 383, -384};
        for (int i = 0; i < words.length; i++) {
            everywhere(words[i], 8388607, small[i]);
            everywhere(words[i], LARGEST_SIZE, large[i]);
        }
    }

    private static void everywhere(int word, int size, int want) {
        FontFile file = FontFile.plain(65, 66).step(128, 66, 128, 0);
        file.widths.set(1, word);
        file.heights.add(word);
        file.depths.add(word);
        file.italics.add(word);
        file.kerns.add(word);
        file.parameters.add(word);
        file.parameters.add(word);
        file.characters[65] = FontFile.word(1, 0x11, 4 + 1, 0);
        FontMetrics x = new FontMetrics();
        String what = Integer.toHexString(word) + " scaled by " + size;
        CHECK.due("load: " + what, file.loadInto(x, size), 0);
        for (int i = 0; i < 4; i++) {
            CHECK.due("of(65, " + i + "): " + what, x.of(65, i), want);
        }
        CHECK.due("parameter(1): " + what, x.parameter(1), Math.floorDiv(word, 16));
        CHECK.due("parameter(2): " + what, x.parameter(2), want);
        Rows.add(x, 65, 66);
        CHECK.due("set(): " + what, x.set(), 3);
        CHECK.due("item(1), the kern: " + what, x.item(1), want);
        CHECK.due("total(): " + what, x.total(), 3L * want);
    }
}
