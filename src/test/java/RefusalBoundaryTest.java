import java.util.ArrayList;
import java.util.List;
import java.util.function.Consumer;
import java.util.function.Supplier;

/** What is said of all calls: one that throws changes nothing, and the exception named first counts. */
public final class RefusalBoundaryTest {
    private static final Check CHECK = new Check();
    private static final int LEAST = Integer.MIN_VALUE;
    private static final int LARGEST = Integer.MAX_VALUE;

    /** A call, with its name, that throws or answers false in the states that it is made in. */
    private static final class Refused {
        final String name;
        final Consumer<FontMetrics> call;

        Refused(String name, Consumer<FontMetrics> call) {
            this.name = name;
            this.call = call;
        }
    }

    public static void main(String[] args) {
        aCallThatThrowsChangesNothing();
        aCallThatThrowsWithoutAFont();
        aCallThatAnswersFalseChangesNothing();
        theExceptionThatIsNamedFirst();
        CHECK.end("RefusalBoundaryTest");
    }

    /** Characters 65 .. 70 but 68, a program, a recipe and parameters, items and a row that waits. */
    private static FontFile file() {
        FontFile file = FontFile.plain(65, 70).gone(68).tagged(65, 1, 1).tagged(67, 3, 0).tagged(69, 2, 70);
        file.step(255, 91, 0, 0).step(0, 66, 128, 0).step(128, 91, 2, 70).step(255, 0, 0, 1);
        file.kerns.add(0x00010000);
        file.recipes.add(FontFile.word(0, 66, 0, 65));
        file.parameters.add(99);
        file.parameters.add(1000);
        return file;
    }

    private static FontMetrics busy() {
        FontMetrics x = new FontMetrics();
        file().loadInto(x, 80000);
        Rows.add(x, 65, 66);
        x.set();
        Rows.add(x, 67, 65, 66, 65);
        return x;
    }

    private static FontMetrics full() {
        FontMetrics x = busy();
        for (int i = 4; i < 64; i++) {
            x.add(66);
        }
        return x;
    }

    /** The file and the row are there, but no font is loaded. */
    private static FontMetrics unloaded() {
        FontMetrics x = new FontMetrics();
        FontFile.feed(x, file().bytes());
        Rows.add(x, 65, 66);
        return x;
    }

    private static List<Refused> throwing() {
        List<Refused> calls = new ArrayList<>();
        for (int size : new int[] {LEAST, -1, 134217728, LARGEST}) {
            calls.add(new Refused("load(" + size + ")", x -> x.load(size)));
        }
        for (int i : new int[] {LEAST, -1, 7, LARGEST}) {
            calls.add(new Refused("about(" + i + ")", x -> x.about(i)));
            calls.add(new Refused("of(65, " + i + ")", x -> x.of(65, i)));
            calls.add(new Refused("part(67, " + i + ")", x -> x.part(67, i)));
            calls.add(new Refused("parameter(" + i + ")", x -> x.parameter(i)));
            calls.add(new Refused("isKern(" + i + ")", x -> x.isKern(i)));
            calls.add(new Refused("item(" + i + ")", x -> x.item(i)));
        }
        for (int c : new int[] {LEAST, -1, 64, 68, 71, 257, LARGEST}) {
            calls.add(new Refused("of(" + c + ", 0)", x -> x.of(c, 0)));
            calls.add(new Refused("part(" + c + ", 0)", x -> x.part(c, 0)));
            calls.add(new Refused("ask(" + c + ", 66)", x -> x.ask(c, 66)));
            calls.add(new Refused("ask(65, " + c + ")", x -> x.ask(65, c)));
        }
        calls.add(new Refused("part(66, 0)", x -> x.part(66, 0)));
        calls.add(new Refused("parameter(0)", x -> x.parameter(0)));
        calls.add(new Refused("parameter(3)", x -> x.parameter(3)));
        return calls;
    }

    private static boolean throwsIn(FontMetrics x, Consumer<FontMetrics> call) {
        try {
            call.accept(x);
        } catch (IllegalArgumentException | IllegalStateException | IndexOutOfBoundsException e) {
            return true;
        }
        return false;
    }

    /** Two objects that were used alike, one of which made the refused call too, tell the same. */
    private static void unchanged(Supplier<FontMetrics> made, Refused refused, boolean toThrow) {
        int length = file().bytes().length;
        FontMetrics x = made.get();
        CHECK.due(refused.name + " throws", throwsIn(x, refused.call), toThrow);
        CHECK.same(refused.name, Readout.of(x, length), Readout.of(made.get(), length));
    }

    private static void aCallThatThrowsChangesNothing() {
        CHECK.sentence("Terms", "A call that throws changes nothing");
        for (Refused refused : throwing()) {
            unchanged(RefusalBoundaryTest::busy, refused, true);
            unchanged(RefusalBoundaryTest::full, refused, true);
        }
    }

    private static void aCallThatThrowsWithoutAFont() {
        CHECK.sentence("Terms", "A call that throws changes nothing (without a font)");
        List<Refused> calls = throwing();
        calls.add(new Refused("set()", x -> x.set()));
        calls.add(new Refused("about(0)", x -> x.about(0)));
        calls.add(new Refused("of(65, 0)", x -> x.of(65, 0)));
        calls.add(new Refused("part(67, 0)", x -> x.part(67, 0)));
        calls.add(new Refused("parameter(1)", x -> x.parameter(1)));
        calls.add(new Refused("ask(65, 66)", x -> x.ask(65, 66)));
        calls.add(new Refused("item(0)", x -> x.item(0)));
        calls.add(new Refused("isKern(0)", x -> x.isKern(0)));
        for (Refused refused : calls) {
            unchanged(RefusalBoundaryTest::unloaded, refused, true);
            unchanged(FontMetrics::new, refused, true);
        }
    }

    private static void aCallThatAnswersFalseChangesNothing() {
        CHECK.sentence("Promises 2, 3 and 11", "False, changing nothing");
        int length = file().bytes().length;
        List<Refused> calls = new ArrayList<>();
        for (int n : new int[] {LEAST, -1, 0, 9, LARGEST}) {
            calls.add(new Refused("feed(5, " + n + ")", x -> CHECK.due("feed(5, " + n + ")", x.feed(5, n), false)));
        }
        for (int n : new int[] {LEAST, -1, length + 1, 8192, 8193, LARGEST}) {
            calls.add(new Refused("keep(" + n + ")", x -> CHECK.due("keep(" + n + ")", x.keep(n), false)));
        }
        for (int c : new int[] {LEAST, -1, 256, LARGEST}) {
            calls.add(new Refused("add(" + c + ")", x -> CHECK.due("add(" + c + ")", x.add(c), false)));
        }
        for (Refused refused : calls) {
            unchanged(RefusalBoundaryTest::busy, refused, false);
            unchanged(RefusalBoundaryTest::full, refused, false);
            unchanged(RefusalBoundaryTest::unloaded, refused, false);
        }
        Refused more = new Refused("add(66)", x -> CHECK.due("add(66) to a full row", x.add(66), false));
        unchanged(RefusalBoundaryTest::full, more, false);
    }

    /** Without a font the index is wrong as well, whatever it is: the state is named first. */
    private static void theExceptionThatIsNamedFirst() {
        CHECK.sentence("Terms", "where several exceptions that a call names fit, it is the one that it names first");
        for (Supplier<FontMetrics> made : List.<Supplier<FontMetrics>>of(FontMetrics::new, RefusalBoundaryTest::unloaded)) {
            FontMetrics x = made.get();
            for (int i : new int[] {LEAST, -1, 7, 68, 256, 257, LARGEST}) {
                CHECK.noFont("about(" + i + ")", () -> x.about(i));
                CHECK.noFont("of(" + i + ", 0)", () -> x.of(i, 0));
                CHECK.noFont("of(65, " + i + ")", () -> x.of(65, i));
                CHECK.noFont("of(" + i + ", " + i + ")", () -> x.of(i, i));
                CHECK.noFont("part(" + i + ", 0)", () -> x.part(i, 0));
                CHECK.noFont("part(67, " + i + ")", () -> x.part(67, i));
                CHECK.noFont("parameter(" + i + ")", () -> x.parameter(i));
                CHECK.noFont("ask(" + i + ", 66)", () -> x.ask(i, 66));
                CHECK.noFont("ask(65, " + i + ")", () -> x.ask(65, i));
                // these two name no state
                CHECK.noIndex("item(" + i + ")", () -> x.item(i));
                CHECK.noIndex("isKern(" + i + ")", () -> x.isKern(i));
            }
        }
        FontMetrics x = busy();
        CHECK.noIndex("about(7) with a font", () -> x.about(7));
        CHECK.noIndex("of(64, 6) with a font", () -> x.of(64, 6));
        CHECK.noIndex("part(66, 4) with a font", () -> x.part(66, 4));
        CHECK.noIndex("parameter(3) with a font", () -> x.parameter(3));
        CHECK.noIndex("ask(64, 257) with a font", () -> x.ask(64, 257));
    }
}
