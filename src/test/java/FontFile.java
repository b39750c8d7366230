import java.util.ArrayList;
import java.util.List;

/** Builds the bytes of a font file from its parts. */
final class FontFile {
    static final int POINT = 1 << 20;

    int bc;
    int ec;
    final int[] characters = new int[256];
    final List<Integer> head = new ArrayList<>();
    final List<Integer> widths = new ArrayList<>();
    final List<Integer> heights = new ArrayList<>();
    final List<Integer> depths = new ArrayList<>();
    final List<Integer> italics = new ArrayList<>();
    final List<Integer> program = new ArrayList<>();
    final List<Integer> kerns = new ArrayList<>();
    final List<Integer> recipes = new ArrayList<>();
    final List<Integer> parameters = new ArrayList<>();

    /** The characters bc .. ec, none of them there, at ten points, with widths 0, 1/2 and 1/4. */
    FontFile(int bc, int ec) {
        this.bc = bc;
        this.ec = ec;
        head.add(0x12345678);
        head.add(10 * POINT);
        widths.add(0);
        widths.add(POINT / 2);
        widths.add(POINT / 4);
        heights.add(0);
        depths.add(0);
        italics.add(0);
    }

    /** A font of the characters bc .. ec, all there, a half wide, without tags. */
    static FontFile plain(int bc, int ec) {
        FontFile file = new FontFile(bc, ec);
        for (int c = bc; c <= ec; c++) {
            file.tagged(c, 0, 0);
        }
        return file;
    }

    static int word(int a, int b, int c, int d) {
        return a << 24 | b << 16 | c << 8 | d;
    }

    FontFile tagged(int c, int tag, int rest) {
        characters[c] = word(1, 0, tag, rest);
        return this;
    }

    FontFile measured(int c, int width, int height, int depth, int italic) {
        characters[c] = word(width, 16 * height + depth, 4 * italic, 0);
        return this;
    }

    FontFile gone(int c) {
        characters[c] = 0;
        return this;
    }

    FontFile step(int skip, int next, int op, int rest) {
        program.add(word(skip, next, op, rest));
        return this;
    }

    int[] words() {
        List<Integer> all = new ArrayList<>();
        List<Integer> middle = new ArrayList<>(head);
        for (int c = bc; c <= ec; c++) {
            middle.add(characters[c]);
        }
        for (List<Integer> part : List.of(widths, heights, depths, italics, program, kerns, recipes, parameters)) {
            middle.addAll(part);
        }
        all.add((6 + middle.size()) << 16 | head.size());
        all.add(bc << 16 | ec);
        all.add(widths.size() << 16 | heights.size());
        all.add(depths.size() << 16 | italics.size());
        all.add(program.size() << 16 | kerns.size());
        all.add(recipes.size() << 16 | parameters.size());
        all.addAll(middle);
        return all.stream().mapToInt(Integer::intValue).toArray();
    }

    int[] bytes() {
        int[] words = words();
        int[] bytes = new int[4 * words.length];
        for (int i = 0; i < bytes.length; i++) {
            bytes[i] = words[i / 4] >>> (24 - 8 * (i % 4)) & 255;
        }
        return bytes;
    }

    /** The same file with one of the twelve numbers put otherwise. */
    int[] withNumber(int number, int value) {
        int[] bytes = bytes();
        bytes[2 * number] = value >> 8 & 255;
        bytes[2 * number + 1] = value & 255;
        return bytes;
    }

    static void feed(FontMetrics x, int[] bytes) {
        x.keep(0);
        for (int at = 0; at < bytes.length; at += 8) {
            long w = 0;
            int n = Math.min(8, bytes.length - at);
            for (int i = 0; i < n; i++) {
                w = w << 8 | bytes[at + i];
            }
            if (!x.feed(w, n)) {
                throw new IllegalStateException("the file of the test is too long");
            }
        }
    }

    int loadInto(FontMetrics x, int size) {
        feed(x, bytes());
        return x.load(size);
    }

    FontMetrics loaded() {
        FontMetrics x = new FontMetrics();
        int fault = loadInto(x, 0);
        if (fault != 0) {
            throw new IllegalStateException("the file of the test has fault " + fault);
        }
        return x;
    }

    static int faultOf(int[] bytes) {
        FontMetrics x = new FontMetrics();
        feed(x, bytes);
        return x.load(0);
    }

    int fault() {
        return faultOf(bytes());
    }
}
