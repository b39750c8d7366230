import java.util.Arrays;

/** The boundary cases of the promises 11 to 15. */
public final class RowBoundaryTest {
    private static final Check CHECK = new Check();
    private static final int A = Rows.A;
    private static final int B = Rows.B;
    private static final int C = Rows.C;
    private static final int KERN = Rows.KERN;
    private static final int NONE = FontMetrics.NONE;
    private static final int TOO_MANY = FontMetrics.TOO_MANY;
    private static final int LEAST = Integer.MIN_VALUE;
    private static final int LARGEST = Integer.MAX_VALUE;

    public static void main(String[] args) {
        promise11From0To255();
        promise11MoreThan64();
        promise11RefusedChangesNothing();
        promise11NeedsNoFont();
        promise12HowMany();
        promise12EmptyThen();
        promise12NotThere();
        promise12RowStaying();
        promise12NoItemsWithNone();
        promise12TooMany();
        promise12NoItemsWithTooMany();
        promise12NoneBeforeTooMany();
        promise12NoFont();
        promise13IsKern();
        promise13NoItem();
        promise14Item();
        promise14NoItem();
        promise15NoItems();
        promise15Widths();
        promise15BeyondInt();
        CHECK.end("RowBoundaryTest");
    }

    private static void promise11From0To255() {
        CHECK.sentence("Promise 11", "False, changing nothing, when c is not 0 .. 255");
        FontMetrics x = FontFile.plain(0, 255).loaded();
        for (int c : new int[] {LEAST, LEAST + 1, -256, -2, -1, 256, 257, 512, 65536, LARGEST}) {
            CHECK.due("add(" + c + ")", x.add(c), false);
            CHECK.due("set() behind add(" + c + ")", x.set(), 0);
        }
        for (int c : new int[] {0, 1, 127, 128, 254, 255}) {
            CHECK.due("add(" + c + ")", x.add(c), true);
            CHECK.due("set() behind add(" + c + ")", x.set(), 1);
            CHECK.due("item(0) behind add(" + c + ")", x.item(0), c);
        }
    }

    private static void promise11MoreThan64() {
        CHECK.sentence("Promise 11", "or there would be more than 64");
        FontMetrics x = FontFile.plain(0, 255).loaded();
        for (int i = 0; i < 64; i++) {
            CHECK.due("add of character " + i + " from 0 on", x.add(100 + i), true);
        }
        CHECK.due("add of a 65th", x.add(7), false);
        CHECK.due("add of a 65th again", x.add(8), false);
        CHECK.due("set() of 64", x.set(), 64);
        for (int i = 0; i < 64; i++) {
            CHECK.due("item(" + i + ") of 64", x.item(i), 100 + i);
        }
        CHECK.due("the room behind set()", Rows.room(x), 64);
    }

    private static void promise11RefusedChangesNothing() {
        CHECK.sentence("Promise 11", "False, changing nothing (the items)");
        FontMetrics x = FontFile.plain(0, 255).loaded();
        Rows.add(x, 5, 6);
        x.set();
        CHECK.due("add(256)", x.add(256), false);
        CHECK.due("item(1) behind it", x.item(1), 6);
        CHECK.due("the room", Rows.room(x), 64);
        CHECK.due("add(9) to a full row", x.add(9), false);
        CHECK.due("item(1) behind it", x.item(1), 6);
        CHECK.due("total() behind it", x.total(), 2L * Rows.CHARACTER_WIDE);
    }

    /** Whether a character is there is looked at when the row is set. */
    private static void promise11NeedsNoFont() {
        CHECK.sentence("Promise 11", "Character c comes behind the row (there or not)");
        FontMetrics x = new FontMetrics();
        CHECK.due("add(65) without a font", x.add(A), true);
        FontFile.plain(B, 90).loadInto(x, 0);
        CHECK.due("add(64), which is not there", x.add(64), true);
        CHECK.due("set()", x.set(), NONE);
        FontFile.plain(64, 90).loadInto(x, 0);
        CHECK.due("set() when both are", x.set(), 2);
        CHECK.due("item(0)", x.item(0), A);
        CHECK.due("item(1)", x.item(1), 64);
    }

    private static void promise12HowMany() {
        CHECK.sentence("Promise 12", "The row is SET .. how many items there are");
        FontFile file = Rows.letters().tagged(A, 1, 0).step(0, B, KERN, 0).step(128, A, 3, C);
        FontMetrics x = file.loaded();
        CHECK.due("set() of none", x.set(), 0);
        Rows.add(x, A);
        CHECK.due("set() of one", x.set(), 1);
        Rows.add(x, A, B);
        CHECK.due("set() of two with a kern", x.set(), 3);
        for (int n : new int[] {63, 64}) {
            for (int i = 0; i < n; i++) {
                x.add(i % 2 == 0 ? A : B);
            }
            CHECK.due("set() of " + n + " with kerns", x.set(), n + n / 2);
        }
        // ligatures that keep both bring one more each
        Rows.add(x, A, A);
        CHECK.due("set() of two with a ligature", x.set(), 3);
    }

    private static void promise12EmptyThen() {
        CHECK.sentence("Promise 12", "and empty then");
        FontMetrics x = Rows.letters().loaded();
        for (int n : new int[] {0, 1, 64}) {
            for (int i = 0; i < n; i++) {
                x.add(B);
            }
            CHECK.due("set() of " + n, x.set(), n);
            CHECK.due("set() behind it", x.set(), 0);
            CHECK.noIndex("item(0) behind it", () -> x.item(0));
        }
        CHECK.due("the room", Rows.room(x), 64);
    }

    private static void promise12NotThere() {
        CHECK.sentence("Promise 12", "NONE .. when one of its characters is not there");
        for (int c : new int[] {0, 64, C, 91, 255}) {
            for (int n : new int[] {1, 2, 3, 64}) {
                for (int at : new int[] {0, n / 2, n - 1}) {
                    int[] row = new int[n];
                    Arrays.fill(row, B);
                    FontMetrics x = Rows.letters().gone(C).loaded();
                    Rows.add(x, row);
                    CHECK.due("set() of " + n + " that are there", x.set(), n);
                    row[at] = c;
                    Rows.add(x, row);
                    CHECK.due("set() of " + n + " with " + c + " at " + at, x.set(), NONE);
                }
            }
        }
        for (int c : new int[] {A, 90}) {
            FontMetrics x = Rows.letters().gone(C).loaded();
            Rows.add(x, c);
            CHECK.due("set() of " + c, x.set(), 1);
        }
        // the edge is no character, even if it is the number of one that was added
        FontMetrics edge = Rows.letters().step(255, 91, 0, 0).loaded();
        Rows.add(edge, 91);
        CHECK.due("set() of the edge's number", edge.set(), NONE);
    }

    private static void promise12RowStaying() {
        CHECK.sentence("Promise 12", "NONE, the row staying");
        FontFile gone = Rows.letters().gone(C);
        FontMetrics x = gone.loaded();
        Rows.add(x, A, C, B);
        CHECK.due("set()", x.set(), NONE);
        CHECK.due("set() again", x.set(), NONE);
        x.add(A);
        CHECK.due("set() of one more", x.set(), NONE);
        Rows.letters().loadInto(x, 0);
        CHECK.due("set() when it is there", x.set(), 4);
        Rows.items(CHECK, "the row that stayed", x, A, C, B, A);
        gone.loadInto(x, 0);
        for (int i = 0; i < 64; i++) {
            x.add(C);
        }
        CHECK.due("set() of a full row", x.set(), NONE);
        CHECK.due("add(65) to the full row", x.add(A), false);
        CHECK.due("set() of the full row again", x.set(), NONE);
    }

    private static void noItems(String what, FontMetrics x) {
        for (int i : new int[] {-1, 0, 1}) {
            CHECK.noIndex("item(" + i + ") behind " + what, () -> x.item(i));
            CHECK.noIndex("isKern(" + i + ") behind " + what, () -> x.isKern(i));
        }
        CHECK.due("total() behind " + what, x.total(), 0);
    }

    private static void promise12NoItemsWithNone() {
        CHECK.sentence("Promise 12", "(With these there are no items.) (NONE)");
        FontMetrics x = Rows.letters().gone(C).loaded();
        Rows.add(x, A, B);
        CHECK.due("set() of two", x.set(), 2);
        CHECK.due("item(1)", x.item(1), B);
        Rows.add(x, A, B, C);
        CHECK.due("set() of one that is not there", x.set(), NONE);
        noItems("NONE", x);
    }

    private static FontFile endless() {
        return Rows.letters().tagged(A, 1, 0).step(128, B, 1, A);
    }

    private static void promise12TooMany() {
        CHECK.sentence("Promise 12", "The row is SET, and empty then: .. TOO_MANY");
        FontMetrics x = endless().loaded();
        Rows.add(x, A, B);
        CHECK.due("set() without an end", x.set(), TOO_MANY);
        CHECK.due("set() behind it", x.set(), 0);
        for (int i = 0; i < 64; i++) {
            x.add(i == 62 ? A : B);
        }
        CHECK.due("set() of a full row without an end", x.set(), TOO_MANY);
        CHECK.due("the room behind it", Rows.room(x), 64);
        CHECK.due("set() of a full row", x.set(), 64);
    }

    private static void promise12NoItemsWithTooMany() {
        CHECK.sentence("Promise 12", "(With these there are no items.) (TOO_MANY)");
        FontMetrics x = endless().loaded();
        Rows.add(x, B, A);
        CHECK.due("set() of two", x.set(), 2);
        Rows.add(x, B, B, B, A, B);
        CHECK.due("set() without an end", x.set(), TOO_MANY);
        noItems("TOO_MANY", x);
        Rows.add(x, C);
        CHECK.due("set() of one behind it", x.set(), 1);
        Rows.items(CHECK, "one behind TOO_MANY", x, C);
    }

    private static void promise12NoneBeforeTooMany() {
        CHECK.sentence("Promise 12", "NONE, the row staying, when one of its characters is not there (of an endless row)");
        FontMetrics x = endless().gone(C).loaded();
        Rows.add(x, A, B, C);
        CHECK.due("set() of one that is not there", x.set(), NONE);
        endless().loadInto(x, 0);
        CHECK.due("set() of it when it is", x.set(), TOO_MANY);
    }

    private static void promise12NoFont() {
        CHECK.sentence("Promise 12", "IllegalStateException when no font is loaded");
        FontMetrics x = new FontMetrics();
        CHECK.noFont("set() of no row", () -> x.set());
        Rows.add(x, A, B);
        CHECK.noFont("set() of a row", () -> x.set());
        Rows.letters().loadInto(x, 0);
        CHECK.due("set() of the row with a font", x.set(), 2);
        Rows.items(CHECK, "the row behind a set that threw", x, A, B);
    }

    /** A kern behind each A before a B: A kern B A kern B .. */
    private static FontMetrics kerned(int pairs) {
        FontMetrics x = Rows.letters().tagged(A, 1, 0).step(128, B, KERN, 1).loaded();
        for (int i = 0; i < pairs; i++) {
            Rows.add(x, A, B);
        }
        x.set();
        return x;
    }

    private static void promise13IsKern() {
        CHECK.sentence("Promise 13", "Whether item i is a kern");
        FontMetrics x = kerned(32);
        for (int i = 0; i < 96; i++) {
            CHECK.due("isKern(" + i + ")", x.isKern(i), i % 3 == 1);
        }
        // the one item of an empty row between the edges, where it is first and last
        FontMetrics alone = Rows.letters().step(255, 91, 0, 0).step(128, 91, KERN, 0).step(255, 0, 0, 1).loaded();
        CHECK.due("set() of a kern alone", alone.set(), 1);
        CHECK.due("isKern(0) of a kern alone", alone.isKern(0), true);
    }

    private static void promise13NoItem() {
        CHECK.sentence("Promise 13", "IndexOutOfBoundsException when there is none");
        for (int pairs : new int[] {0, 1, 2, 32}) {
            FontMetrics x = kerned(pairs);
            int n = 3 * pairs;
            for (int i : new int[] {LEAST, -2, -1, n, n + 1, 1066, LARGEST}) {
                CHECK.noIndex("isKern(" + i + ") of " + n, () -> x.isKern(i));
            }
            if (n > 0) {
                CHECK.due("isKern(0) of " + n, x.isKern(0), false);
                CHECK.due("isKern(" + (n - 1) + ") of " + n, x.isKern(n - 1), false);
            }
        }
    }

    private static void promise14Item() {
        CHECK.sentence("Promise 14", "Item i: the character, or how wide the kern is");
        FontMetrics x = kerned(32);
        int[] want = {A, -Rows.WIDE, B};
        for (int i = 0; i < 96; i++) {
            CHECK.due("item(" + i + ")", x.item(i), want[i % 3]);
        }
    }

    private static void promise14NoItem() {
        CHECK.sentence("Promise 14", "IndexOutOfBoundsException when there is none");
        for (int pairs : new int[] {0, 1, 2, 32}) {
            FontMetrics x = kerned(pairs);
            int n = 3 * pairs;
            for (int i : new int[] {LEAST, -2, -1, n, n + 1, 1066, LARGEST}) {
                CHECK.noIndex("item(" + i + ") of " + n, () -> x.item(i));
            }
            if (n > 0) {
                CHECK.due("item(0) of " + n, x.item(0), A);
                CHECK.due("item(" + (n - 1) + ") of " + n, x.item(n - 1), B);
            }
        }
        // a shorter row leaves nothing of the longer one before it
        FontMetrics x = kerned(32);
        Rows.add(x, C);
        x.set();
        Rows.items(CHECK, "a shorter row", x, C);
    }

    private static void promise15NoItems() {
        CHECK.sentence("Promise 15", "The widths of all items together (of none)");
        FontMetrics x = new FontMetrics();
        CHECK.due("total() of a new object", x.total(), 0);
        Rows.add(x, A);
        CHECK.due("total() of a row that is not set", x.total(), 0);
        Rows.letters().loadInto(x, 0);
        CHECK.due("total() behind load", x.total(), 0);
        CHECK.due("set()", x.set(), 1);
        CHECK.due("total() of one", x.total(), Rows.CHARACTER_WIDE);
        Rows.add(x, B);
        CHECK.due("total() while the next row comes", x.total(), Rows.CHARACTER_WIDE);
        CHECK.due("set()", x.set(), 1);
        CHECK.due("set() of no row", x.set(), 0);
        CHECK.due("total() of no row", x.total(), 0);
    }

    private static void promise15Widths() {
        CHECK.sentence("Promise 15", "The widths of all items together (characters and kerns)");
        for (int pairs : new int[] {1, 2, 31, 32}) {
            long want = pairs * (2L * Rows.CHARACTER_WIDE - Rows.WIDE);
            CHECK.due("total() of " + pairs + " pairs", kerned(pairs).total(), want);
        }
        FontMetrics alone = Rows.letters().step(255, 91, 0, 0).step(128, 91, KERN, 1).step(255, 0, 0, 1).loaded();
        alone.set();
        CHECK.due("total() of a kern alone", alone.total(), -Rows.WIDE);
        // each character has its own width, negative ones too; heights and italics are none of it
        FontFile file = new FontFile(A, C);
        file.widths.add(0xFFF00000);
        file.heights.add(5);
        file.italics.add(5);
        file.measured(A, 1, 1, 0, 1).measured(B, 2, 1, 0, 1).measured(C, 3, 0, 0, 0);
        FontMetrics x = file.loaded();
        Rows.add(x, A, B, C, B);
        x.set();
        CHECK.due("total() of several widths", x.total(), 327680 + 163840 - 655360 + 163840);
    }

    private static void promise15BeyondInt() {
        CHECK.sentence("Promise 15", "long total()");
        int[] words = {0x00FFFFFF, 0xFF000000};
        long[] wide = {2147483264L, -2147483392L};
        for (int i = 0; i < 2; i++) {
            FontFile file = Rows.letters().tagged(A, 1, 0).step(128, A, KERN, 0);
            file.widths.set(1, words[i]);
            file.kerns.set(0, words[i]);
            FontMetrics x = new FontMetrics();
            file.loadInto(x, 134217727);
            for (int n : new int[] {1, 2, 64}) {
                for (int k = 0; k < n; k++) {
                    x.add(A);
                }
                CHECK.due("set() of " + n, x.set(), 2 * n - 1);
                CHECK.due("total() of " + n, x.total(), (2 * n - 1) * wide[i]);
            }
            for (int at : new int[] {0, 1, 125, 126}) {
                CHECK.due("item(" + at + ")", x.item(at), at % 2 == 0 ? A : wide[i]);
            }
        }
    }
}
