/** Fonts and rows for the tests of setting. */
final class Rows {
    static final int A = 65;
    static final int B = 66;
    static final int C = 67;
    static final int D = 68;
    static final int KERN = 128;
    static final int EDGE = 256;

    /** How wide the two kerns and all the characters of letters() are at its ten points. */
    static final int WIDE = 40960;
    static final int CHARACTER_WIDE = 327680;

    /** In what is due of a row, a kern is written as this less its width. */
    private static final int KERN_MARK = -1000000;

    /** The characters 65 .. 90 without tags, and two kerns: forth and back. */
    static FontFile letters() {
        FontFile file = FontFile.plain(A, 90);
        file.kerns.add(0x00010000);
        file.kerns.add(0xFFFF0000);
        return file;
    }

    static int kern(int width) {
        return KERN_MARK - width;
    }

    static int[] row(int... row) {
        return row;
    }

    static void add(FontMetrics x, int... row) {
        for (int c : row) {
            x.add(c);
        }
    }

    /** Sets a row of a font of letters() and holds all that is told of its items to what is due. */
    static void set(Check check, String what, FontFile file, int[] row, int... want) {
        FontMetrics x = file.loaded();
        add(x, row);
        check.due("set(): " + what, x.set(), want.length);
        items(check, what, x, want);
        check.due("the row is empty then: " + what, room(x), 64);
    }

    static void items(Check check, String what, FontMetrics x, int... want) {
        long total = 0;
        for (int i = 0; i < want.length; i++) {
            boolean kern = want[i] < 0;
            int due = kern ? KERN_MARK - want[i] : want[i];
            try {
                check.due("isKern(" + i + "): " + what, x.isKern(i), kern);
                check.due("item(" + i + "): " + what, x.item(i), due);
            } catch (IndexOutOfBoundsException e) {
                check.due("item(" + i + ") is there: " + what, false, true);
            }
            total += kern ? due : CHARACTER_WIDE;
        }
        check.noIndex("item behind the last: " + what, () -> x.item(want.length));
        check.noIndex("isKern behind the last: " + what, () -> x.isKern(want.length));
        check.due("total(): " + what, x.total(), total);
    }

    /** How many characters the row still takes, which are there then. */
    static int room(FontMetrics x) {
        int room = 0;
        while (room <= 64 && x.add(A)) {
            room++;
        }
        return room;
    }
}
