import java.math.BigInteger;
import java.util.ArrayList;
import java.util.List;

/**
 * The document once more, as slowly and literally as can be: byte by byte, with big
 * integers, and with a list of places in which a row is set. ModelTest holds the class to it.
 */
final class Model {
    /** What a call answers when it throws, by the exception that it throws. */
    static final long STATE = Long.MIN_VALUE;
    static final long INDEX = Long.MIN_VALUE + 1;
    static final long ARGUMENT = Long.MIN_VALUE + 2;

    private static final int EDGE = 256;

    private final List<Integer> file = new ArrayList<>();
    private List<Integer> row = new ArrayList<>();
    private List<long[]> items = new ArrayList<>();
    private Parts font = null;
    private int size;

    /** A file cut into its parts. */
    private static final class Parts {
        int bc;
        int ec;
        int[][][] parts;

        int[][] characters() {
            return parts[1];
        }

        int[][] program() {
            return parts[6];
        }

        boolean there(int c) {
            return bc <= c && c <= ec && characters()[c - bc][0] != 0;
        }

        int[] character(int c) {
            return characters()[c - bc];
        }

        int edge() {
            int[][] p = program();
            return p.length > 0 && p[0][0] == 255 ? p[0][1] : -1;
        }

        int edgeProgram() {
            int[][] p = program();
            return p.length > 0 && p[p.length - 1][0] == 255 ? low(p[p.length - 1]) : -1;
        }
    }

    private static int low(int[] word) {
        return 256 * word[2] + word[3];
    }

    private static int all(int[] word) {
        return word[0] << 24 | word[1] << 16 | low(word);
    }

    boolean feed(long w, int n) {
        if (n < 1 || n > 8 || file.size() + n > 8192) {
            return false;
        }
        byte[] bytes = BigInteger.valueOf(w).add(BigInteger.ONE.shiftLeft(80)).toByteArray();
        for (int i = bytes.length - n; i < bytes.length; i++) {
            file.add(bytes[i] & 255);
        }
        return true;
    }

    boolean keep(int n) {
        if (n < 0 || n > file.size()) {
            return false;
        }
        file.subList(n, file.size()).clear();
        return true;
    }

    long load(int newSize) {
        if (newSize < 0 || newSize > 134217727) {
            return ARGUMENT;
        }
        Parts parts = new Parts();
        int fault = cut(parts);
        fault = fault != 0 ? fault : faultOfCharacters(parts);
        fault = fault != 0 ? fault : faultOfRest(parts);
        if (fault != 0) {
            return fault;
        }
        font = parts;
        size = newSize != 0 ? newSize : designSize();
        items = new ArrayList<>();
        return 0;
    }

    private int designSize() {
        return Math.min(134217727, Math.floorDiv(all(font.parts[0][1]), 16));
    }

    private int cut(Parts parts) {
        if (file.size() < 24) {
            return 1;
        }
        int[] n = new int[12];
        for (int i = 0; i < 12; i++) {
            n[i] = 256 * file.get(2 * i) + file.get(2 * i + 1);
            if (n[i] > 32767) {
                return 1;
            }
        }
        if (n[2] > n[3] + 1 || n[3] > 255) {
            return 2;
        }
        if (n[1] < 2 || n[4] == 0 || n[5] == 0 || n[6] == 0 || n[7] == 0 || n[10] > 256) {
            return 3;
        }
        int count = n[3] - n[2] + 1;
        int[] lengths = {n[1], count, n[4], n[5], n[6], n[7], n[8], n[9], n[10], n[11]};
        int sum = 6;
        for (int length : lengths) {
            sum += length;
        }
        if (n[0] != sum || file.size() != 4 * n[0]) {
            return 4;
        }
        parts.bc = n[2];
        parts.ec = n[3];
        parts.parts = new int[10][][];
        int at = 24;
        for (int part = 0; part < 10; part++) {
            parts.parts[part] = new int[lengths[part]][4];
            for (int[] word : parts.parts[part]) {
                for (int k = 0; k < 4; k++) {
                    word[k] = file.get(at++);
                }
            }
        }
        return all(parts.parts[0][1]) < 1048576 ? 5 : 0;
    }

    private static int faultOfCharacters(Parts parts) {
        int[][][] p = parts.parts;
        for (int[] c : parts.characters()) {
            if (c[0] >= p[2].length || c[1] / 16 >= p[3].length || c[1] % 16 >= p[4].length
                || c[2] / 4 >= p[5].length) {
                return 6;
            }
        }
        for (int c = parts.bc; c <= parts.ec; c++) {
            if (!parts.there(c)) {
                continue;
            }
            int tag = parts.character(c)[2] % 4;
            int rest = parts.character(c)[3];
            if (tag == 1 && rest >= p[6].length || tag == 3 && rest >= p[8].length) {
                return 7;
            }
            List<Integer> seen = new ArrayList<>();
            int at = c;
            while (parts.there(at) && parts.character(at)[2] % 4 == 2 && !seen.contains(at)) {
                seen.add(at);
                at = parts.character(at)[3];
            }
            if (!parts.there(at) || seen.contains(at)) {
                return 7;
            }
        }
        return 0;
    }

    private static int faultOfRest(Parts parts) {
        int[][][] p = parts.parts;
        for (int part : new int[] {2, 3, 4, 5, 7}) {
            for (int i = 0; i < p[part].length; i++) {
                if (p[part][i][0] % 255 != 0 || i == 0 && part != 7 && all(p[part][i]) != 0) {
                    return 8;
                }
            }
        }
        for (int i = 0; i < p[6].length; i++) {
            int[] w = p[6][i];
            if (w[0] > 128) {
                if (low(w) >= p[6].length) {
                    return 9;
                }
                continue;
            }
            boolean next = parts.there(w[1]) || w[1] == parts.edge();
            boolean done = w[2] < 128 ? parts.there(w[3]) : 256 * (w[2] - 128) + w[3] < p[7].length;
            boolean on = w[0] == 128 || i + w[0] + 1 < p[6].length;
            if (!next || !done || !on) {
                return 9;
            }
        }
        for (int[] w : p[8]) {
            for (int k = 0; k < 4; k++) {
                if (!parts.there(w[k]) && (k == 3 || w[k] != 0)) {
                    return 10;
                }
            }
        }
        for (int i = 1; i < p[9].length; i++) {
            if (p[9][i][0] % 255 != 0) {
                return 11;
            }
        }
        return 0;
    }

    private long scaled(int[] word) {
        int z = size;
        int k = 0;
        while (z >= 8388608) {
            z = Math.floorDiv(z, 2);
            k++;
        }
        BigInteger whole = BigInteger.valueOf(65536L * word[1] + low(word)).multiply(BigInteger.valueOf(z));
        BigInteger value = whole.divide(BigInteger.TWO.pow(20 - k));
        if (word[0] == 255) {
            value = value.subtract(BigInteger.TWO.pow(4 + k).multiply(BigInteger.valueOf(z)));
        }
        return value.intValueExact();
    }

    long about(int what) {
        if (font == null) {
            return STATE;
        }
        long[] answers = {
            font.bc, font.ec, size, designSize(), font.parts[9].length, font.edge(), font.edgeProgram() < 0 ? 0 : 1,
        };
        return what < 0 || what > 6 ? INDEX : answers[what];
    }

    boolean has(int c) {
        return font != null && font.there(c);
    }

    long of(int c, int what) {
        if (font == null) {
            return STATE;
        }
        if (!font.there(c) || what < 0 || what > 5) {
            return INDEX;
        }
        int[] w = font.character(c);
        int[] places = {w[0], w[1] / 16, w[1] % 16, w[2] / 4};
        return what == 4 ? w[2] % 4 : what == 5 ? w[3] : scaled(font.parts[2 + what][places[what]]);
    }

    long part(int c, int k) {
        if (font == null) {
            return STATE;
        }
        if (!font.there(c) || font.character(c)[2] % 4 != 3 || k < 0 || k > 3) {
            return INDEX;
        }
        return font.parts[8][font.character(c)[3]][k];
    }

    long parameter(int i) {
        if (font == null) {
            return STATE;
        }
        if (i < 1 || i > font.parts[9].length) {
            return INDEX;
        }
        int[] word = font.parts[9][i - 1];
        return i == 1 ? Math.floorDiv(all(word), 16) : scaled(word);
    }

    long ask(int x, int r) {
        if (font == null) {
            return STATE;
        }
        if (x != EDGE && !font.there(x) || r != EDGE && !font.there(r)) {
            return INDEX;
        }
        int[] found = found(x, r);
        return found == null ? -1 : low(found);
    }

    private int[] found(int x, int r) {
        int start = x == EDGE ? font.edgeProgram() : font.character(x)[2] % 4 == 1 ? font.character(x)[3] : -1;
        if (start < 0 || r == EDGE && font.edge() < 0) {
            return null;
        }
        int next = r == EDGE ? font.edge() : r;
        int[][] p = font.program();
        int at = p[start][0] > 128 ? low(p[start]) : start;
        while (p[at][0] <= 128) {
            if (p[at][1] == next) {
                return p[at];
            }
            if (p[at][0] == 128) {
                return null;
            }
            at += p[at][0] + 1;
        }
        return null;
    }

    boolean add(int c) {
        return c >= 0 && c < 256 && row.size() < 64 && row.add(c);
    }

    long set() {
        if (font == null) {
            return STATE;
        }
        items = new ArrayList<>();
        for (int c : row) {
            if (!font.there(c)) {
                return -1;
            }
        }
        List<Integer> places = row;
        row = new ArrayList<>();
        if (font.edgeProgram() >= 0) {
            places.add(0, EDGE);
        }
        if (font.edge() >= 0) {
            places.add(EDGE);
        }
        // kerns.get(i) is what was put behind place i, or null
        List<Long> kerns = new ArrayList<>();
        for (int i = 0; i < places.size(); i++) {
            kerns.add(null);
        }
        int asked = 0;
        int i = 0;
        while (i + 1 < places.size()) {
            asked++;
            if (asked > 1000) {
                return -2;
            }
            int[] found = found(places.get(i), places.get(i + 1));
            if (found == null) {
                i++;
            } else if (found[2] >= 128) {
                kerns.set(i, scaled(font.parts[7][256 * (found[2] - 128) + found[3]]));
                i++;
            } else {
                places.add(i + 1, found[3]);
                kerns.add(i + 1, null);
                if (found[2] % 2 == 0) {
                    places.remove(i + 2);
                    kerns.remove(i + 2);
                }
                if (found[2] / 2 % 2 == 0) {
                    places.remove(i);
                    kerns.remove(i);
                }
                i = Math.min(i + found[2] / 4, places.size() - 1);
            }
        }
        for (int at = 0; at < places.size(); at++) {
            if (places.get(at) != EDGE) {
                items.add(new long[] {0, places.get(at)});
            }
            if (kerns.get(at) != null) {
                items.add(new long[] {1, kerns.get(at)});
            }
        }
        return items.size();
    }

    long isKern(int i) {
        return i < 0 || i >= items.size() ? INDEX : items.get(i)[0];
    }

    long item(int i) {
        return i < 0 || i >= items.size() ? INDEX : items.get(i)[1];
    }

    long total() {
        long sum = 0;
        for (long[] item : items) {
            sum += item[0] == 1 ? item[1] : of((int) item[1], 0);
        }
        return sum;
    }
}
