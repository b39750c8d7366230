import java.util.ArrayList;
import java.util.Arrays;
import java.util.List;

/** The boundary cases of how a row is SET, and of when the asking is TOO MANY. */
public final class SettingBoundaryTest {
    private static final Check CHECK = new Check();
    private static final int A = Rows.A;
    private static final int B = Rows.B;
    private static final int C = Rows.C;
    private static final int D = Rows.D;
    private static final int KERN = Rows.KERN;
    private static final int FORTH = Rows.kern(Rows.WIDE);
    private static final int BACK = Rows.kern(-Rows.WIDE);

    /** The number of the edge where it is no character of letters(). */
    private static final int NUMBER = 91;

    public static void main(String[] args) {
        edgesComeBeforeAndBehind();
        noPlaceBehindTheFirst();
        placeByPlace();
        noProgramOfOtherTags();
        theEdgeAsksAndIsAskedFor();
        nothingIsFound();
        aKernIsBetween();
        ligatureBetween();
        ligatureTakesOutEdges();
        growsUpToTheLastPlace();
        ligatureAtPlaceI();
        edgesAreTakenOut();
        moreThan1000Times();
        moreThan1000TimesWithEdges();
        moreThan1000TimesOfARowThatGrows();
        endless();
        CHECK.end("SettingBoundaryTest");
    }

    private static FontFile letters() {
        return Rows.letters();
    }

    private static void set(String what, FontFile file, int[] row, int... want) {
        Rows.set(CHECK, what, file, row, want);
    }

    private static int[] row(int... row) {
        return row;
    }

    /** The edge before puts a kern forth before A, and A one back before the edge behind. */
    private static FontFile edges(boolean before, boolean behind) {
        FontFile file = letters();
        file.step(behind ? 255 : 254, NUMBER, 0, 0);
        file.step(128, A, KERN, 0);
        if (behind) {
            file.step(128, NUMBER, KERN, 1).tagged(A, 1, 2);
        }
        file.step(before ? 255 : 254, 0, 0, 1);
        return file;
    }

    private static void edgesComeBeforeAndBehind() {
        CHECK.sentence("Terms", "an edge comes before it if there is the edge's program, an edge behind it if there is "
            + "an edge");
        set("neither", edges(false, false), row(A), A);
        set("before", edges(true, false), row(A), FORTH, A);
        set("behind", edges(false, true), row(A), A, BACK);
        set("both", edges(true, true), row(A), FORTH, A, BACK);
        set("both, two characters", edges(true, true), row(A, A), FORTH, A, A, BACK);
        int[] full = new int[64];
        Arrays.fill(full, A);
        int[] want = new int[66];
        Arrays.fill(want, A);
        want[0] = FORTH;
        want[65] = BACK;
        set("both, 64 characters", edges(true, true), full, want);
    }

    private static void noPlaceBehindTheFirst() {
        CHECK.sentence("Terms", "As long as there is a place i + 1 (of a row that is empty)");
        set("neither", edges(false, false), row());
        set("before", edges(true, false), row());
        set("behind", edges(false, true), row());
        set("both, which say nothing", edges(true, true), row());
        FontFile kern = letters().step(255, NUMBER, 0, 0).step(128, NUMBER, KERN, 0).step(255, 0, 0, 1);
        set("both, with a kern", kern, row(), FORTH);
        for (int op = 0; op < 4; op++) {
            FontFile ligature = letters().step(255, NUMBER, 0, 0).step(128, NUMBER, op, C).step(255, 0, 0, 1);
            set("both, with a ligature of op " + op, ligature, row(), C);
        }
        set("no edges, no characters in the font", noCharacters(), row());
    }

    private static FontFile noCharacters() {
        FontFile file = FontFile.plain(256, 255);
        file.kerns.add(0);
        return file;
    }

    private static void placeByPlace() {
        CHECK.sentence("Terms", "place i is the first one. As long as there is a place i + 1");
        FontFile file = letters().tagged(A, 1, 0).step(128, A, KERN, 0);
        set("one place", file, row(A), A);
        set("two places", file, row(A, A), A, FORTH, A);
        set("three places", file, row(A, A, A), A, FORTH, A, FORTH, A);
        int[] full = new int[64];
        Arrays.fill(full, A);
        int[] want = new int[127];
        for (int i = 0; i < want.length; i++) {
            want[i] = i % 2 == 0 ? A : FORTH;
        }
        set("64 places", file, full, want);
    }

    private static void noProgramOfOtherTags() {
        CHECK.sentence("Terms", "none for a character whose tag is not 1");
        for (int tag = 0; tag <= 3; tag++) {
            // place 0 of the program, of the recipes, and a larger character there too
            FontFile file = FontFile.plain(0, 90).tagged(A, tag, 0).step(128, B, KERN, 0);
            file.kerns.add(0x00010000);
            file.recipes.add(A);
            if (tag == 1) {
                set("tag 1", file, row(A, B), A, FORTH, B);
            } else {
                set("tag " + tag, file, row(A, B), A, B);
            }
        }
    }

    private static void theEdgeAsksAndIsAskedFor() {
        CHECK.sentence("Terms", "x's program (the edge's for the edge; none for a character whose tag is not 1) is "
            + "asked for r (the edge for the edge)");
        // the edge is the character B: a B in the row is asked for alike, but has its own program
        FontFile file = letters().tagged(A, 1, 1).tagged(B, 1, 3);
        file.step(255, B, 0, 0).step(0, B, KERN, 0).step(128, C, KERN, 1).step(128, D, KERN, 0).step(255, 0, 0, 1);
        set("the edge before B", file, row(B, D), FORTH, B, FORTH, D);
        set("the edge before C", file, row(C), BACK, C);
        set("A before B, and A before the edge", file, row(A, B, A), A, FORTH, B, A, FORTH);
        set("B before the edge", file, row(B), FORTH, B);
        set("the edge before D", file, row(D), D);
    }

    private static void nothingIsFound() {
        CHECK.sentence("Terms", "Nothing is found: i grows by 1");
        FontFile file = letters().tagged(A, 1, 0).tagged(B, 1, 1).step(128, D, KERN, 0).step(128, C, KERN, 1);
        set("nothing at the first place", file, row(A, B, C), A, B, BACK, C);
        set("nothing at the last", file, row(B, C, A), B, BACK, C, A);
        set("nothing at all", file, row(A, A, B, B), A, A, B, B);
    }

    private static void aKernIsBetween() {
        CHECK.sentence("Terms", "A kern: it is put between the two (kerns have no places), and i grows by 1");
        FontFile file = letters().tagged(A, 1, 0).tagged(B, 1, 1);
        file.step(128, B, KERN, 0).step(0, A, KERN, 1).step(128, B, 4 + 1, C);
        set("a kern", file, row(A, B), A, FORTH, B);
        set("kerns behind one another", file, row(A, B, A, B), A, FORTH, B, BACK, A, FORTH, B);
        // B and B: C comes for the first one, and i grows by one place, which is the second B
        set("a kern, then a ligature", file, row(A, B, B, A), A, FORTH, C, B, BACK, A);
    }

    /** A and B with a ligature C of each op below 8, then D, before which C and B have kerns. */
    private static void ligatureBetween() {
        CHECK.sentence("Terms", "A ligature with z: z comes between the two; x is taken out if v is 0, r if w is 0");
        FontFile file = letters().tagged(A, 1, 0).tagged(B, 1, 1).tagged(C, 1, 2);
        file.step(128, B, 0, C).step(128, D, KERN, 0).step(128, D, KERN, 1);
        int[][] want = {
            {C, BACK, D}, {C, B, FORTH, D}, {A, C, BACK, D}, {A, C, B, FORTH, D},
            {C, D}, {C, B, FORTH, D}, {A, C, BACK, D}, {A, C, B, FORTH, D},
        };
        for (int op = 0; op < 8; op++) {
            file.program.set(0, FontFile.word(128, B, op, C));
            // with u 1 and both taken out, C is at place 0 and D at place 1, the last one
            set("op " + op, file, row(A, B, D), want[op]);
        }
    }

    private static void ligatureTakesOutEdges() {
        CHECK.sentence("Terms", "x is taken out if v is 0, r if w is 0 (of the edges)");
        // what is there is seen by the kerns that the edge before has before C, and C before the edge behind
        int[][] before = {{C}, {C, A}, {FORTH, C}, {FORTH, C, A}};
        int[][] behind = {{C}, {C, BACK}, {A, C}, {A, C, BACK}};
        for (int op = 0; op < 4; op++) {
            FontFile first = letters().step(0, A, op, C).step(128, C, KERN, 0).step(255, 0, 0, 0);
            set("the edge before, op " + op, first, row(A), before[op]);
            FontFile last = letters().tagged(A, 1, 1).tagged(C, 1, 2);
            last.step(255, NUMBER, 0, 0).step(128, NUMBER, op, C).step(128, NUMBER, KERN, 1);
            set("the edge behind, op " + op, last, row(A), behind[op]);
        }
    }

    /** A B and so many D behind; the D from place i on have kerns between them. */
    private static void growsUpToTheLastPlace() {
        CHECK.sentence("Terms", "then i grows by u, or up to the last place if there are not so many");
        for (int behind : new int[] {0, 1, 2, 3, 29, 30, 31, 32, 62}) {
            for (int u = 0; u < 32; u++) {
                for (int kept = 0; kept < 4; kept++) {
                    grows(u, kept, behind);
                }
            }
        }
    }

    private static void grows(int u, int kept, int behind) {
        FontFile file = FontFile.plain(A, D).tagged(A, 1, 0).tagged(D, 1, 1);
        file.kerns.add(0x00010000);
        file.step(128, B, 4 * u + kept, C).step(128, D, KERN, 0);
        List<Integer> row = new ArrayList<>(List.of(A, B));
        List<Integer> places = new ArrayList<>();
        if (kept / 2 == 1) {
            places.add(A);
        }
        places.add(C);
        if (kept % 2 == 1) {
            places.add(B);
        }
        for (int i = 0; i < behind; i++) {
            row.add(D);
            places.add(D);
        }
        List<Integer> want = new ArrayList<>();
        int from = Math.min(u, places.size() - 1);
        for (int i = 0; i < places.size(); i++) {
            want.add(places.get(i));
            if (i >= from && i + 1 < places.size() && places.get(i) == D) {
                want.add(FORTH);
            }
        }
        String what = "u " + u + ", kept " + kept + ", " + behind + " behind";
        set(what, file, ints(row), ints(want));
    }

    private static int[] ints(List<Integer> list) {
        return list.stream().mapToInt(Integer::intValue).toArray();
    }

    private static void ligatureAtPlaceI() {
        CHECK.sentence("Terms", "(If x is taken out, z is at place i then.)");
        FontFile file = letters().tagged(A, 1, 0).tagged(C, 1, 1).tagged(D, 1, 2);
        file.step(128, B, 0, C).step(128, B, 0, D).step(128, B, KERN, 0);
        set("z asks: nothing behind", file, row(A, B), C);
        set("z asks: a ligature again", file, row(A, B, B), D);
        set("z asks: a kern at last", file, row(A, B, B, B), D, FORTH, B);
        // if x stays, it is x that asks again, for z now
        FontFile stays = letters().tagged(A, 1, 0).step(0, B, 2, C).step(128, C, KERN, 1);
        set("x stays and asks for z", stays, row(A, B), A, BACK, C);
    }

    private static void edgesAreTakenOut() {
        CHECK.sentence("Terms", "At last edges that are still there are taken out");
        for (int u : new int[] {0, 1, 2, 31}) {
            int op = 4 * u + 3;
            FontFile first = letters().step(128, A, op, C).step(255, 0, 0, 0);
            set("the edge before, u " + u, first, row(A, B), C, A, B);
            FontFile last = letters().tagged(A, 1, 1).step(255, NUMBER, 0, 0).step(128, NUMBER, op, C);
            set("the edge behind, u " + u, last, row(B, A), B, A, C);
            FontFile both = letters().step(255, NUMBER, 0, 0).step(128, NUMBER, op, C).step(255, 0, 0, 1);
            set("both, u " + u, both, row(), C);
        }
        set("none there", letters(), row(A, B), A, B);
    }

    /**
     * Each character of 0 .. 199 becomes the next one before 255, and 200 nothing: so c and 255 ask
     * 200 - c times for a ligature, once for nothing, and 255 asks once for what is behind it. 201
     * has a kern before 202 and a ligature before 203; it finds nothing before 204.
     */
    private static FontFile counter(boolean withEdge) {
        FontFile file = FontFile.plain(0, 255);
        if (withEdge) {
            file.step(255, 250, 0, 0);
        }
        int start = file.program.size();
        for (int c = 0; c < 200; c++) {
            file.tagged(c, 1, start + c).step(128, 255, 1, c + 1);
        }
        file.tagged(201, 1, start + 200).step(0, 202, KERN, 0).step(128, 203, 0, 205);
        file.kerns.add(0x00010000);
        return file;
    }

    /** Adds a row that asks so many times, the last character of which asks for what is behind. */
    private static int asking(FontMetrics x, int times) {
        int left = times;
        int items = 0;
        while (left > 0) {
            // the pair that takes 202 times, or what is left, but never all but one
            int pair = Math.min(202, left);
            pair -= left - pair == 1 ? 1 : 0;
            x.add(200 - (pair - 2));
            x.add(255);
            left -= pair;
            items += 2;
        }
        return items;
    }

    private static void moreThan1000Times() {
        CHECK.sentence("Terms", "More than 1000 times of asking are TOO MANY");
        int[][] ends = {{201, 202, 3}, {201, 203, 1}, {201, 204, 2}, {206, 204, 2}};
        String[] names = {"a kern", "a ligature", "nothing", "no program"};
        for (int i = 0; i < ends.length; i++) {
            for (int times : new int[] {3, 500, 998, 999, 1000, 1001, 1002}) {
                FontMetrics x = counter(false).loaded();
                int items = asking(x, times - 1);
                Rows.add(x, ends[i][0], ends[i][1]);
                int want = times > 1000 ? FontMetrics.TOO_MANY : items + ends[i][2];
                CHECK.due("set() with " + times + " times, at last " + names[i], x.set(), want);
            }
        }
    }

    /** The edge behind is asked for by the last character: one time more. */
    private static void moreThan1000TimesWithEdges() {
        CHECK.sentence("Terms", "More than 1000 times of asking are TOO MANY (with an edge)");
        for (int times : new int[] {999, 1000, 1001}) {
            FontMetrics x = counter(true).loaded();
            int items = asking(x, times - 1);
            // 206 asks for the edge, and is the place that the pairs ask for
            Rows.add(x, 206);
            int want = times > 1000 ? FontMetrics.TOO_MANY : items + 1;
            CHECK.due("set() with " + times + " times, the edge behind", x.set(), want);
            FontMetrics both = counter(true).step(255, 0, 0, 1).loaded();
            items = asking(both, times - 2);
            Rows.add(both, 206);
            CHECK.due("set() with " + times + " times, both edges", both.set(), want < 0 ? want : items + 1);
        }
    }

    /**
     * Rows that grow by a character with each ligature: 0 .. 39 before 255 put the next one between
     * and go on to it, so c and 255 ask 40 - c times, once for 40 before 255, and 255 once.
     */
    private static void moreThan1000TimesOfARowThatGrows() {
        CHECK.sentence("Terms", "More than 1000 times of asking are TOO MANY (of a row that grows)");
        FontFile file = FontFile.plain(0, 255);
        for (int c = 0; c < 40; c++) {
            file.tagged(c, 1, c).step(128, 255, 4 + 3, c + 1);
        }
        for (int times : new int[] {999, 1000, 1001}) {
            FontMetrics x = file.loaded();
            int left = times;
            int items = 0;
            while (left > 0) {
                // behind the last pair no one asks: it takes one time less
                int pair = Math.min(42, left + 1);
                x.add(40 - (pair - 2));
                x.add(255);
                items += pair;
                left -= pair;
            }
            CHECK.due("times that the row asks", times - left - 1, times);
            CHECK.due("set() with " + times + " times", x.set(), times > 1000 ? FontMetrics.TOO_MANY : items);
        }
    }

    private static void endless() {
        CHECK.sentence("Terms", "More than 1000 times of asking are TOO MANY (without an end)");
        for (int op : new int[] {1, 2, 3, 7}) {
            // A before A puts an A there, whatever is taken out, and asks on at it or before it
            FontMetrics x = letters().tagged(A, 1, 0).step(128, A, op, A).loaded();
            Rows.add(x, A, A);
            CHECK.due("set() of op " + op, x.set(), FontMetrics.TOO_MANY);
            Rows.add(x, A);
            CHECK.due("set() of one with op " + op, x.set(), 1);
        }
        FontMetrics shrinks = letters().tagged(A, 1, 0).step(128, A, 0, A).loaded();
        for (int i = 0; i < 64; i++) {
            shrinks.add(A);
        }
        CHECK.due("set() of op 0, which has an end", shrinks.set(), 1);
        FontMetrics before = letters().step(128, A, 2, A).step(255, 0, 0, 0).loaded();
        Rows.add(before, A);
        CHECK.due("set() of the edge before", before.set(), FontMetrics.TOO_MANY);
        FontMetrics behind = letters().tagged(A, 1, 1).step(255, NUMBER, 0, 0).step(128, NUMBER, 1, A).loaded();
        Rows.add(behind, A);
        CHECK.due("set() of the edge behind", behind.set(), FontMetrics.TOO_MANY);
    }
}
