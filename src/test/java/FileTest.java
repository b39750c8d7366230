/** Promises 1 to 3: a new object, feed and keep. */
public final class FileTest {
    private static final Check CHECK = new Check();

    public static void main(String[] args) {
        newObject();
        feedOrder();
        feedEdges();
        feedInBits();
        keepEdges();
        keepThenFeed();
        CHECK.end("FileTest");
    }

    private static void newObject() {
        FontMetrics x = new FontMetrics();
        CHECK.due("keep(1) of a new object", x.keep(1), false);
        CHECK.due("keep(0) of a new object", x.keep(0), true);
        CHECK.due("has(0) of a new object", x.has(0), false);
        CHECK.due("load(0) of a new object", x.load(0), 1);
        CHECK.due("total() of a new object", x.total(), 0);
        CHECK.noFont("about(0) of a new object", () -> x.about(0));
        CHECK.noFont("set() of a new object", () -> x.set());
        CHECK.noIndex("item(0) of a new object", () -> x.item(0));
        CHECK.noIndex("isKern(0) of a new object", () -> x.isKern(0));
        FontMetrics y = FontFile.plain(65, 66).loaded();
        CHECK.due("set() of an empty row", y.set(), 0);
    }

    /** bc and ec tell in which order bytes came behind the file. */
    private static void feedOrder() {
        int[] words = FontFile.plain(65, 70).words();
        FontMetrics x = new FontMetrics();
        for (int word : words) {
            // what is above the lowest four bytes must not count
            CHECK.due("feed(.., 4)", x.feed(word & 0xFFFFFFFFL | 0x5A5A5A5A00000000L, 4), true);
        }
        CHECK.due("load(0) of words", x.load(0), 0);
        CHECK.due("about(0)", x.about(0), 65);
        CHECK.due("about(1)", x.about(1), 70);
    }

    private static void feedEdges() {
        FontMetrics x = new FontMetrics();
        CHECK.due("feed(1, 0)", x.feed(1, 0), false);
        CHECK.due("feed(1, -1)", x.feed(1, -1), false);
        CHECK.due("feed(1, 9)", x.feed(1, 9), false);
        CHECK.due("feed(1, int's largest)", x.feed(1, Integer.MAX_VALUE), false);
        CHECK.due("feed(1, int's least)", x.feed(1, Integer.MIN_VALUE), false);
        CHECK.due("keep(1) behind refused feeds", x.keep(1), false);
        CHECK.due("feed(1, 1)", x.feed(1, 1), true);
        CHECK.due("keep(2)", x.keep(2), false);
        CHECK.due("keep(1)", x.keep(1), true);
    }

    /** A file in pieces of every length by turns, most of whose bytes are seen in its parameters. */
    private static void feedInBits() {
        FontFile file = FontFile.plain(0, 3);
        while (file.words().length < 240) {
            file.parameters.add(0x00012345 + file.parameters.size());
        }
        int[] bytes = file.bytes();
        FontMetrics x = new FontMetrics();
        int n = 1;
        for (int at = 0; at < bytes.length; at += n, n = n % 8 + 1) {
            n = Math.min(n, bytes.length - at);
            long w = 0;
            for (int i = 0; i < n; i++) {
                w = w << 8 | bytes[at + i];
            }
            CHECK.due("feed(.., " + n + ") at " + at, x.feed(w, n), true);
        }
        CHECK.due("load of all bytes", x.load(1 << 20), 0);
        int np = file.parameters.size();
        CHECK.due("about(4)", x.about(4), np);
        for (int i = 2; i <= np; i++) {
            CHECK.due("parameter(" + i + ")", x.parameter(i), file.parameters.get(i - 1));
        }
        x.keep(bytes.length - 1);
        CHECK.due("load of one byte less", x.load(0), 4);
    }

    private static void keepEdges() {
        FontMetrics x = new FontMetrics();
        x.feed(0, 5);
        CHECK.due("keep(-1)", x.keep(-1), false);
        CHECK.due("keep(int's least)", x.keep(Integer.MIN_VALUE), false);
        CHECK.due("keep(6) of 5", x.keep(6), false);
        CHECK.due("keep(int's largest)", x.keep(Integer.MAX_VALUE), false);
        CHECK.due("keep(5) of 5", x.keep(5), true);
        CHECK.due("keep(3) of 5", x.keep(3), true);
        CHECK.due("keep(4) of 3", x.keep(4), false);
        CHECK.due("keep(0) of 3", x.keep(0), true);
        CHECK.due("keep(1) of 0", x.keep(1), false);
    }

    /** Bytes that were cut off, in the middle of a word too, must not shine through. */
    private static void keepThenFeed() {
        int[] bytes = FontFile.plain(65, 66).bytes();
        for (int cut = 0; cut <= bytes.length; cut++) {
            FontMetrics x = new FontMetrics();
            FontFile.feed(x, bytes);
            for (int at = cut; at < bytes.length; at++) {
                x.keep(at);
                x.feed(~bytes[at], 1);
            }
            CHECK.due("keep(" + cut + ")", x.keep(cut), true);
            for (int at = cut; at < bytes.length; at++) {
                x.feed(bytes[at], 1);
            }
            CHECK.due("load(0) behind keep(" + cut + ")", x.load(0), 0);
            CHECK.due("of(66, 0)", x.of(66, 0), 327680);
        }
    }
}
