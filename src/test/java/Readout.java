import java.util.function.LongSupplier;

/**
 * All that the calls of an object tell of its font, its items, its row and its file, as one text:
 * two objects that were used alike, but for a call that changes nothing, tell the same. It takes
 * some 170 calls, and the object is not used any more then.
 */
final class Readout {
    private static final int[] ASKED = {65, 66, 67, 256};

    private final FontMetrics x;
    private final StringBuilder text = new StringBuilder();

    private Readout(FontMetrics x) {
        this.x = x;
    }

    static String of(FontMetrics x, int fileLength) {
        Readout readout = new Readout(x);
        readout.font();
        readout.items();
        readout.tell("set", () -> x.set());
        readout.items();
        readout.tell("keep one more", () -> x.keep(fileLength + 1) ? 1 : 0);
        readout.tell("keep all", () -> x.keep(fileLength) ? 1 : 0);
        readout.tell("load", () -> x.load(70000));
        readout.about();
        return readout.text.toString();
    }

    private void font() {
        about();
        for (int c = 64; c <= 71; c++) {
            int at = c;
            tell("has " + c, () -> x.has(at) ? 1 : 0);
            for (int i = 0; i < 6; i++) {
                int what = i;
                tell("of " + c, () -> x.of(at, what));
            }
            for (int i = 0; i < 4; i++) {
                int k = i;
                tell("part " + c, () -> x.part(at, k));
            }
        }
        for (int i = 0; i <= 4; i++) {
            int at = i;
            tell("parameter " + i, () -> x.parameter(at));
        }
        for (int c : ASKED) {
            for (int r : ASKED) {
                tell("ask " + c + " " + r, () -> x.ask(c, r));
            }
        }
    }

    private void about() {
        for (int i = 0; i < 7; i++) {
            int what = i;
            tell("about " + i, () -> x.about(what));
        }
    }

    private void items() {
        for (int i = 0; i < 8; i++) {
            int at = i;
            tell("isKern " + i, () -> x.isKern(at) ? 1 : 0);
            tell("item " + i, () -> x.item(at));
        }
        tell("total", () -> x.total());
    }

    private void tell(String call, LongSupplier made) {
        text.append(call).append(' ');
        try {
            text.append(made.getAsLong());
        } catch (RuntimeException e) {
            text.append(e.getClass().getSimpleName());
        }
        text.append("; ");
    }
}
