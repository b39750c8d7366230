import java.util.Arrays;
import java.util.List;
import java.util.Random;
import java.util.function.LongSupplier;

/** All promises: runs of calls with fonts made at random, each answer held to that of the model. */
public final class ModelTest {
    private static final int RUNS = 16000;
    private static final int MOST_CALLS = 512;
    private static final int[] ODD = {
        -1, 0, 1, 255, 256, 257, 8388607, 8388608, 134217727, 134217728, Integer.MIN_VALUE, Integer.MAX_VALUE,
    };

    private final Check check = new Check();
    private final Random random = new Random(20261115);
    private final long[] seen = new long[12];
    private long set = 0;
    private long tooMany = 0;
    private int made = 0;
    private int most = 0;
    private FontMetrics x;
    private Model model;

    public static void main(String[] args) {
        ModelTest test = new ModelTest();
        for (int run = 0; run < RUNS; run++) {
            test.run(run);
        }
        test.reached();
        test.check.due("the most calls of an object", test.most <= MOST_CALLS, true);
        test.check.end("ModelTest");
    }

    /** A generator that no longer reaches a fault or an ending would test nothing there. */
    private void reached() {
        for (int fault = 0; fault <= 11; fault++) {
            check.due("fault " + fault + " was reached", seen[fault] > 20, true);
        }
        check.due("rows were set", set > 1000, true);
        check.due("rows were too many", tooMany > 50, true);
        System.out.println("files by fault " + Arrays.toString(seen) + ", rows set " + set + ", too many " + tooMany);
    }

    private int below(int n) {
        return random.nextInt(n);
    }

    private boolean oneIn(int n) {
        return below(n) == 0;
    }

    private int odd() {
        return ODD[below(ODD.length)];
    }

    private void run(int run) {
        x = new FontMetrics();
        model = new Model();
        made = 0;
        if (oneIn(4)) {
            calls("run " + run + ", before a file: ", 10, FontFile.plain(65, 66));
        }
        int files = 1 + below(2);
        for (int i = 0; i < files && !spent(); i++) {
            FontFile file = file();
            int[] bytes = file.bytes();
            spoil(bytes);
            feed(bytes);
            calls("run " + run + ", file " + i + ": ", 60, file);
        }
        most = Math.max(most, made);
    }

    /** Nothing is promised behind call 512: what is left is for the files and items still to come. */
    private boolean spent() {
        return made > MOST_CALLS - 250;
    }

    private void feed(int[] bytes) {
        due("keep(0)", x.keep(0), model.keep(0));
        for (int at = 0; at < bytes.length; at += 8) {
            long w = random.nextLong();
            int n = Math.min(8, bytes.length - at);
            for (int i = 0; i < n; i++) {
                w = w << 8 | bytes[at + i];
            }
            long fed = w;
            due("feed(" + w + ", " + n + ")", x.feed(fed, n), model.feed(fed, n));
        }
    }

    private void due(String call, boolean got, boolean want) {
        made++;
        check.due(call, got, want);
    }

    /** Some files have a few bytes put otherwise, mostly in the twelve numbers or a little beside them. */
    private void spoil(int[] bytes) {
        if (oneIn(2)) {
            return;
        }
        int times = 1 + below(3);
        for (int i = 0; i < times; i++) {
            int at = oneIn(3) ? below(24) : below(bytes.length);
            int change = below(4);
            bytes[at] = change == 0 ? below(256) : change == 1 ? 255 : change == 2 ? bytes[at] + 1 & 255 : 0;
        }
    }

    private FontFile file() {
        int bc = oneIn(6) ? 0 : oneIn(6) ? 250 : below(250);
        FontFile file = FontFile.plain(bc, Math.min(255, bc + below(7) - 1));
        file.head.set(1, oneIn(8) ? random.nextInt() >>> 1 : FontFile.POINT * (1 + below(20)) + below(99));
        for (List<Integer> part : List.of(file.widths, file.heights, file.depths, file.italics, file.kerns)) {
            fractions(part, 1 + below(4));
        }
        if (!oneIn(3)) {
            file.parameters.add(random.nextInt());
            fractions(file.parameters, below(4));
        }
        if (file.ec >= file.bc) {
            recipes(file);
            program(file);
            characters(file);
        }
        return file;
    }

    private void fractions(List<Integer> part, int n) {
        for (int i = 0; i < n; i++) {
            part.add(random.nextInt() & 0x00FFFFFF | (oneIn(2) ? 0xFF000000 : 0));
        }
    }

    private int some(FontFile file) {
        return file.bc + below(file.ec - file.bc + 1);
    }

    private void recipes(FontFile file) {
        for (int i = below(3); i > 0; i--) {
            int a = oneIn(2) ? 0 : some(file);
            int b = oneIn(2) ? 0 : some(file);
            file.recipes.add(FontFile.word(a, b, some(file), some(file)));
        }
    }

    private void program(FontFile file) {
        int nl = below(12);
        int edge = oneIn(2) ? some(file) : below(256);
        boolean hasEdge = oneIn(2);
        for (int i = 0; i < nl; i++) {
            boolean end = i == 0 && hasEdge || i == nl - 1 && oneIn(2);
            if (end || oneIn(12)) {
                file.step(end ? 255 : 129 + below(127), i == 0 ? edge : below(256), 0, below(nl));
                continue;
            }
            int skip = i == nl - 1 || oneIn(3) ? 128 : below(Math.min(3, nl - 1 - i));
            int next = hasEdge && oneIn(3) ? edge : some(file);
            if (oneIn(3)) {
                file.step(skip, next, 128, below(file.kerns.size()));
            } else {
                file.step(skip, next, oneIn(8) ? below(128) : below(16), some(file));
            }
        }
    }

    private void characters(FontFile file) {
        boolean strict = !oneIn(4);
        for (int c = file.bc; c <= file.ec; c++) {
            file.measured(c, 1 + below(file.widths.size() - 1), below(file.heights.size()),
                below(file.depths.size()), below(file.italics.size()));
            int tag = oneIn(3) ? 1 + below(3) : 1;
            int rest = tag == 1 ? below(1 + file.program.size())
                : tag == 2 ? some(file) : below(1 + file.recipes.size());
            int most = tag == 1 ? file.program.size() : tag == 2 ? c : file.recipes.size();
            if (!strict || rest < most) {
                file.characters[c] |= tag << 8 | rest;
            }
        }
        if (oneIn(4)) {
            file.characters[some(file)] &= 0x00FFFFFF;
        }
    }

    private void calls(String run, int n, FontFile file) {
        load(run, oneIn(3) ? 0 : oneIn(8) ? odd() : below(oneIn(2) ? 134217728 : 2000000));
        for (int i = 0; i < n && !spent(); i++) {
            call(run, file);
        }
        for (int i = below(12); i > 0; i--) {
            addOne(run, file);
        }
        setAndSee(run);
    }

    /** Seldom a character that is not there, as it stays in the row for the rest of the run. */
    private void addOne(String run, FontFile file) {
        int c = oneIn(200) || file.bc > file.ec ? odd() : some(file);
        if (model.has(c) || oneIn(20)) {
            due(run + "add(" + c + ")", x.add(c), model.add(c));
        }
    }

    private void load(String run, int size) {
        long want = model.load(size);
        answer(run + "load(" + size + ")", () -> x.load(size), want);
        if (want >= 0) {
            seen[(int) want]++;
        }
    }

    private void setAndSee(String run) {
        long want = model.set();
        answer(run + "set()", () -> x.set(), want);
        set += want > 0 ? 1 : 0;
        tooMany += want == FontMetrics.TOO_MANY ? 1 : 0;
        for (int i = -1; i <= Math.max(0, want); i++) {
            if (i > 20 && i < want - 20) {
                continue;
            }
            int at = i;
            answer(run + "isKern(" + i + ")", () -> x.isKern(at) ? 1 : 0, model.isKern(i));
            answer(run + "item(" + i + ")", () -> x.item(at), model.item(i));
        }
        answer(run + "total()", () -> x.total(), model.total());
    }

    private void call(String run, FontFile file) {
        int bc = file.bc;
        int c = oneIn(12) ? odd() : bc - 1 + below(8);
        int d = oneIn(6) ? 256 : bc - 1 + below(8);
        int i = oneIn(12) ? odd() : below(9) - 1;
        switch (below(20)) {
            case 0: answer(run + "about(" + i + ")", () -> x.about(i), model.about(i)); break;
            case 1: due(run + "has(" + c + ")", x.has(c), model.has(c)); break;
            case 2: case 3: case 4: case 5:
                answer(run + "of(" + c + ", " + i + ")", () -> x.of(c, i), model.of(c, i)); break;
            case 6: answer(run + "part(" + c + ", " + i + ")", () -> x.part(c, i), model.part(c, i)); break;
            case 7: answer(run + "parameter(" + i + ")", () -> x.parameter(i), model.parameter(i)); break;
            case 8: case 9: answer(run + "ask(" + c + ", " + d + ")", () -> x.ask(c, d), model.ask(c, d)); break;
            case 10: answer(run + "ask(" + d + ", " + c + ")", () -> x.ask(d, c), model.ask(d, c)); break;
            case 11: refusedKeep(run, i); break;
            case 12: refusedFeed(run, i); break;
            case 13: load(run, below(134217728)); break;
            case 14: setAndSee(run); break;
            default: addOne(run, file); break;
        }
    }

    /** Refused, so that the file stays whole for the next load. */
    private void refusedKeep(String run, int i) {
        int n = i >= 0 && i < 8193 ? 8193 : i;
        due(run + "keep(" + n + ")", x.keep(n), model.keep(n));
    }

    private void refusedFeed(String run, int i) {
        int n = i >= 1 && i <= 8 ? -i : i;
        due(run + "feed(1, " + n + ")", x.feed(1, n), model.feed(1, n));
    }

    private void answer(String name, LongSupplier call, long want) {
        made++;
        long got;
        try {
            got = call.getAsLong();
        } catch (RuntimeException e) {
            Class<?> thrown = e.getClass();
            got = thrown == IllegalStateException.class ? Model.STATE
                : thrown == IndexOutOfBoundsException.class ? Model.INDEX
                : thrown == IllegalArgumentException.class ? Model.ARGUMENT : Long.MAX_VALUE;
        }
        check.due(name, got, want);
    }
}
