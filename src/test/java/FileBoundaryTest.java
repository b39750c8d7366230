import java.util.Arrays;

/** The boundary cases of the terms FILE and WORDS, of the promises 1 to 3, and of the 512 calls. */
public final class FileBoundaryTest {
    private static final Check CHECK = new Check();
    private static final int LEAST = Integer.MIN_VALUE;
    private static final int LARGEST = Integer.MAX_VALUE;

    public static void main(String[] args) {
        theLastCallThatIsPromised();
        bytesFrom0To255();
        atMost8192Bytes();
        numbersHighestByteFirst();
        soManyWords();
        promise1FileIsEmpty();
        promise1RowIsEmpty();
        promise1NoFont();
        promise2LowestBytes();
        promise2From1To8();
        promise2RefusedChangesNothing();
        promise2MoreThan8192();
        promise3FirstBytes();
        promise3Negative();
        promise3NotSoMany();
        promise3RefusedChangesNothing();
        CHECK.end("FileBoundaryTest");
    }

    /** The length of a file, told by the one keep that is taken where one byte more is not. */
    private static void length(String what, FontMetrics x, int want) {
        CHECK.due("keep(" + (want + 1) + ") " + what, x.keep(want + 1), false);
        CHECK.due("keep(" + want + ") " + what, x.keep(want), true);
    }

    private static void theLastCallThatIsPromised() {
        CHECK.sentence("What it is", "An object is used for at most 512 calls after it has been made");
        int[] bytes = FontFile.plain(65, 66).bytes();
        FontMetrics x = new FontMetrics();
        FontFile.feed(x, bytes);
        int made = 1 + (bytes.length + 7) / 8;
        while (made < 508) {
            x.total();
            made++;
        }
        CHECK.due("call 509, load(0)", x.load(0), 0);
        CHECK.due("call 510, add(65)", x.add(65), true);
        CHECK.due("call 511, set()", x.set(), 1);
        CHECK.due("call 512, item(0)", x.item(0), 65);
    }

    private static void bytesFrom0To255() {
        CHECK.sentence("Terms", "A FILE is a row of bytes 0 .. 255");
        FontFile file = FontFile.plain(0, 255);
        for (int k = 0; k < 64; k++) {
            file.recipes.add(FontFile.word(4 * k, 4 * k + 1, 4 * k + 2, 4 * k + 3));
            file.tagged(k, 3, k);
        }
        FontMetrics x = file.loaded();
        for (int value = 0; value < 256; value++) {
            CHECK.due("byte " + value, x.part(value / 4, value % 4), value);
        }
    }

    /** An object has made 1024 calls then; the document leaves free what it answers behind the 512th. */
    private static void atMost8192Bytes() {
        CHECK.sentence("Terms", "at most 8192");
        FontMetrics x = new FontMetrics();
        for (int i = 0; i < 1024; i++) {
            CHECK.due("feed(-1, 8) at " + 8 * i, x.feed(-1, 8), true);
        }
        for (int n = 1; n <= 8; n++) {
            CHECK.due("feed(-1, " + n + ") at 8192", x.feed(-1, n), false);
        }
        length("of a full file", x, 8192);
    }

    private static void numbersHighestByteFirst() {
        CHECK.sentence("Terms", "twelve numbers of 16 bits, the highest byte first");
        for (int np : new int[] {0, 1, 255, 256, 257, 511, 512}) {
            FontFile file = FontFile.plain(65, 66);
            for (int i = 1; i <= np; i++) {
                file.parameters.add(16 * i);
            }
            FontMetrics x = new FontMetrics();
            CHECK.due("load of np " + np, file.loadInto(x, 65536), 0);
            CHECK.due("about(4) of np " + np, x.about(4), np);
            if (np > 1) {
                CHECK.due("parameter(np) of np " + np, x.parameter(np), np);
            }
            CHECK.noIndex("parameter(np + 1) of np " + np, () -> x.parameter(np + 1));
        }
    }

    /** Each part has one word more in turn; what stands behind it must still be found. */
    private static void soManyWords() {
        CHECK.sentence("Terms", "Behind them come, one behind the other, so many words");
        for (int longer = 0; longer < 10; longer++) {
            FontFile file = oneOfEach();
            FontMetrics x = new FontMetrics();
            lengthen(file, longer);
            String what = "part " + longer + " longer";
            CHECK.due("load: " + what, file.loadInto(x, 1048576), 0);
            int[] want = {101, 102, 103, 104, 3, 0};
            for (int i = 0; i < want.length; i++) {
                CHECK.due("of(65, " + i + "): " + what, x.of(65, i), want[i]);
            }
            CHECK.due("part(65, 3): " + what, x.part(65, 3), 66);
            CHECK.due("ask(66, 65): " + what, x.ask(66, 65), 256 * 128);
            CHECK.due("parameter(2): " + what, x.parameter(2), 106);
            x.add(66);
            x.add(65);
            CHECK.due("set(): " + what, x.set(), 3);
            CHECK.due("item(1): " + what, x.item(1), 105);
        }
        FontMetrics none = FontFile.plain(1, 0).loaded();
        CHECK.due("about(0) of no words but the least", none.about(0), 1);
        CHECK.due("about(1) of no words but the least", none.about(1), 0);
        CHECK.due("about(4) of no words but the least", none.about(4), 0);
        CHECK.due("about(5) of no words but the least", none.about(5), FontMetrics.NONE);
        CHECK.due("about(6) of no words but the least", none.about(6), 0);
    }

    private static FontFile oneOfEach() {
        FontFile file = new FontFile(65, 66);
        file.widths.set(1, 101);
        file.heights.add(102);
        file.depths.add(103);
        file.italics.add(104);
        file.kerns.add(105);
        file.recipes.add(66);
        file.parameters.add(7);
        file.parameters.add(106);
        file.step(128, 65, 128, 0);
        file.characters[65] = FontFile.word(1, 0x11, 4 + 3, 0);
        file.characters[66] = FontFile.word(1, 0, 1, 0);
        return file;
    }

    private static void lengthen(FontFile file, int part) {
        switch (part) {
            case 0: file.head.add(9); break;
            case 1: file.ec = 67; break;
            case 2: file.widths.add(9); break;
            case 3: file.heights.add(9); break;
            case 4: file.depths.add(9); break;
            case 5: file.italics.add(9); break;
            case 6: file.step(128, 66, 0, 66); break;
            case 7: file.kerns.add(9); break;
            case 8: file.recipes.add(65); break;
            default: file.parameters.add(9); break;
        }
    }

    private static void promise1FileIsEmpty() {
        CHECK.sentence("Promise 1", "The file and the row are empty (the file)");
        length("of a new object", new FontMetrics(), 0);
        CHECK.due("load(0) of a new object", new FontMetrics().load(0), 1);
    }

    private static void promise1RowIsEmpty() {
        CHECK.sentence("Promise 1", "The file and the row are empty (the row)");
        FontMetrics x = FontFile.plain(65, 66).loaded();
        CHECK.due("set() of a new object's row", x.set(), 0);
        CHECK.due("the room of a new object's row", Rows.room(new FontMetrics()), 64);
    }

    private static void promise1NoFont() {
        CHECK.sentence("Promise 1", "no font is loaded");
        FontMetrics x = new FontMetrics();
        CHECK.noFont("about(0)", () -> x.about(0));
        CHECK.noFont("of(0, 0)", () -> x.of(0, 0));
        CHECK.noFont("part(0, 0)", () -> x.part(0, 0));
        CHECK.noFont("parameter(1)", () -> x.parameter(1));
        CHECK.noFont("ask(256, 256)", () -> x.ask(256, 256));
        CHECK.noFont("set()", () -> x.set());
        CHECK.due("has(0)", x.has(0), false);
        CHECK.noIndex("item(0)", () -> x.item(0));
        CHECK.noIndex("isKern(0)", () -> x.isKern(0));
        CHECK.due("total()", x.total(), 0);
        CHECK.due("load(0) of a file", FontFile.plain(65, 66).loadInto(x, 0), 0);
        CHECK.due("about(0) of a font", x.about(0), 65);
    }

    /** The same file in pieces of each length, all bits above the piece being set, or none. */
    private static void promise2LowestBytes() {
        CHECK.sentence("Promise 2", "The n lowest bytes of w come behind the file, the highest of them first");
        FontFile file = FontFile.plain(65, 66);
        file.parameters.add(0x12345678);
        file.parameters.add(0x00FEDCBA);
        int[] bytes = file.bytes();
        for (int n = 1; n <= 8; n++) {
            for (long above : new long[] {0, -1}) {
                FontMetrics x = new FontMetrics();
                for (int at = 0; at < bytes.length; at += n) {
                    int piece = Math.min(n, bytes.length - at);
                    long w = above;
                    for (int i = 0; i < piece; i++) {
                        w = w << 8 | bytes[at + i];
                    }
                    CHECK.due("feed(.., " + piece + ")", x.feed(w, piece), true);
                }
                CHECK.due("load of pieces of " + n, x.load(1048576), 0);
                CHECK.due("parameter(1) of pieces of " + n, x.parameter(1), 0x01234567);
                CHECK.due("parameter(2) of pieces of " + n, x.parameter(2), 0x00FEDCBA);
            }
        }
    }

    private static void promise2From1To8() {
        CHECK.sentence("Promise 2", "False, changing nothing, when n is not 1 .. 8");
        FontMetrics x = new FontMetrics();
        int length = 0;
        for (int n = -300; n <= 300; n += n > -12 && n < 20 ? 1 : 8) {
            boolean taken = n >= 1 && n <= 8;
            CHECK.due("feed(5, " + n + ")", x.feed(5, n), taken);
            length += taken ? n : 0;
            length("behind feed(5, " + n + ")", x, length);
        }
        for (int n : new int[] {LEAST, LEAST + 1, LEAST + 8, 65537, LARGEST - 7, LARGEST}) {
            CHECK.due("feed(5, " + n + ")", x.feed(5, n), false);
            length("behind feed(5, " + n + ")", x, length);
        }
    }

    private static void promise2RefusedChangesNothing() {
        CHECK.sentence("Promise 2", "False, changing nothing (what the file holds)");
        int[] bytes = FontFile.plain(65, 66).bytes();
        FontMetrics x = new FontMetrics();
        for (int at = 0; at < bytes.length; at++) {
            x.feed(bytes[at], 1);
            CHECK.due("feed(-1, 0) at " + at, x.feed(-1, 0), false);
            CHECK.due("feed(-1, 9) at " + at, x.feed(-1, 9), false);
        }
        CHECK.due("load(0) behind refused feeds", x.load(0), 0);
        CHECK.due("of(66, 0) behind refused feeds", x.of(66, 0), Rows.CHARACTER_WIDE);
    }

    /** Behind the 512th call, as a file of 8192 bytes always is. */
    private static void promise2MoreThan8192() {
        CHECK.sentence("Promise 2", "or there would be more than 8192");
        FontFile file = FontFile.plain(65, 66);
        while (file.words().length < 2048) {
            file.parameters.add(file.parameters.size());
        }
        int[] bytes = file.bytes();
        FontMetrics x = new FontMetrics();
        FontFile.feed(x, bytes);
        int last = file.parameters.size();
        for (int n = 1; n <= 8; n++) {
            long w = 0;
            for (int at = 8192 - n; at < 8192; at++) {
                w = w << 8 | bytes[at];
            }
            CHECK.due("keep", x.keep(8192 - n), true);
            if (n < 8) {
                CHECK.due("feed(0, " + (n + 1) + ") at " + (8192 - n), x.feed(0, n + 1), false);
                length("behind that", x, 8192 - n);
            }
            CHECK.due("feed(w, " + n + ") at " + (8192 - n), x.feed(w, n), true);
            CHECK.due("feed(0, " + n + ") at 8192", x.feed(0, n), false);
            length("behind that", x, 8192);
            CHECK.due("load of 8192 bytes", x.load(1048576), 0);
            CHECK.due("parameter(" + last + ")", x.parameter(last), last - 1);
            CHECK.due("parameter(" + (last - 1) + ")", x.parameter(last - 1), last - 2);
        }
        for (int i = 2; i <= last; i++) {
            CHECK.due("parameter(" + i + ")", x.parameter(i), i - 1);
        }
        x.keep(8191);
        CHECK.due("load of 8191 bytes", x.load(0), 4);
    }

    /** The bytes behind are fed anew, so the file is whole only if the first n are those that were. */
    private static void promise3FirstBytes() {
        CHECK.sentence("Promise 3", "The file keeps its first n bytes");
        FontFile file = FontFile.plain(65, 65);
        int[] bytes = file.bytes();
        int[] other = new int[bytes.length];
        Arrays.fill(other, 0xA5);
        for (int n = 0; n <= bytes.length; n++) {
            FontMetrics x = new FontMetrics();
            System.arraycopy(bytes, 0, other, 0, n);
            FontFile.feed(x, other);
            CHECK.due("keep(" + n + ")", x.keep(n), true);
            length("behind keep(" + n + ")", x, n);
            for (int at = n; at < bytes.length; at++) {
                x.feed(bytes[at], 1);
            }
            CHECK.due("load(0) behind keep(" + n + ")", x.load(0), 0);
            CHECK.due("of(65, 0) behind keep(" + n + ")", x.of(65, 0), Rows.CHARACTER_WIDE);
        }
    }

    private static void promise3Negative() {
        CHECK.sentence("Promise 3", "False when n is negative");
        FontMetrics x = new FontMetrics();
        for (int length = 0; length < 3; length++) {
            for (int n : new int[] {-1, -2, -8192, LEAST}) {
                CHECK.due("keep(" + n + ") of " + length, x.keep(n), false);
                length("behind keep(" + n + ")", x, length);
            }
            x.feed(7, 1);
        }
        CHECK.due("keep(0)", x.keep(0), true);
    }

    private static void promise3NotSoMany() {
        CHECK.sentence("Promise 3", "or it has not so many");
        FontMetrics x = new FontMetrics();
        for (int length = 0; length < 20; length++) {
            for (int n : new int[] {length + 1, length + 2, 8192, 8193, LARGEST}) {
                CHECK.due("keep(" + n + ") of " + length, x.keep(n), false);
            }
            CHECK.due("keep(" + length + ") of " + length, x.keep(length), true);
            x.feed(7, 1);
        }
        CHECK.due("keep(7) of 20", x.keep(7), true);
        CHECK.due("keep(8) of 7, where 20 were", x.keep(8), false);
        CHECK.due("keep(20) of 7, where 20 were", x.keep(20), false);
        CHECK.due("keep(7) of 7", x.keep(7), true);
    }

    private static void promise3RefusedChangesNothing() {
        CHECK.sentence("Promise 3", "False (what the file holds)");
        FontMetrics x = new FontMetrics();
        int[] bytes = FontFile.plain(65, 66).bytes();
        FontFile.feed(x, bytes);
        for (int n : new int[] {-1, LEAST, bytes.length + 1, LARGEST}) {
            CHECK.due("keep(" + n + ")", x.keep(n), false);
            CHECK.due("load(0) behind keep(" + n + ")", x.load(0), 0);
        }
    }
}
