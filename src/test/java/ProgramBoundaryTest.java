/** The boundary cases of promise 10, and of the terms of the program and how it is asked. */
public final class ProgramBoundaryTest {
    private static final Check CHECK = new Check();
    private static final int A = Rows.A;
    private static final int B = Rows.B;
    private static final int C = Rows.C;
    private static final int D = Rows.D;
    private static final int KERN = Rows.KERN;
    private static final int EDGE = Rows.EDGE;
    private static final int NONE = FontMetrics.NONE;

    /** What is due where a word with op 1 and rest D is found. */
    private static final int FOUND = 256 + D;

    public static void main(String[] args) {
        programBeginsAtRest();
        programBeginsInstead();
        programBeginsInsteadOnce();
        edgesProgramBeginsInstead();
        askedAbove128();
        askedNextIsR();
        askedSkip128();
        askedGoesOn();
        foundKernOrLigature();
        foundKernScaled();
        promise10Answer();
        promise10NoProgram();
        promise10Edge();
        promise10Refuses();
        promise10NoFont();
        CHECK.end("ProgramBoundaryTest");
    }

    private static FontFile letters() {
        return Rows.letters();
    }

    private static void asked(String what, FontFile file, int x, int r, int want) {
        CHECK.due("ask(" + x + ", " + r + "): " + what, file.loaded().ask(x, r), want);
    }

    /** A program in which no word is found but one, which has op 1 and rest D before B. */
    private static FontFile oneWord(int nl, int place) {
        FontFile file = letters();
        for (int i = 0; i < nl; i++) {
            file.step(128, i == place ? B : C, 1, D);
        }
        return file;
    }

    private static FontFile with(FontFile file, int place, int skip, int next, int op, int rest) {
        file.program.set(place, FontFile.word(skip, next, op, rest));
        return file;
    }

    private static void programBeginsAtRest() {
        CHECK.sentence("Terms", "1 its program begins at the place rest of the program");
        for (int place : new int[] {0, 1, 127, 128, 254, 255}) {
            FontFile file = oneWord(256, place);
            asked("at " + place, file.tagged(A, 1, place), A, B, FOUND);
            if (place > 0) {
                asked("one before " + place, file.tagged(A, 1, place - 1), A, B, NONE);
            }
            if (place < 255) {
                asked("one behind " + place, file.tagged(A, 1, place + 1), A, B, NONE);
            }
        }
    }

    private static void programBeginsInstead() {
        CHECK.sentence("Terms", "A program that begins at a place where skip is above 128 begins at 256 * c + d of "
            + "that word instead");
        int nl = 300;
        for (int place : new int[] {0, 1, 128, 255, 256, 257, 299}) {
            for (int skip : new int[] {129, 130, 200, 254, 255}) {
                int start = place == 2 ? 3 : 2;
                FontFile file = oneWord(nl, place).tagged(A, 1, start);
                with(file, start, skip, B, place >> 8, place & 255);
                asked("skip " + skip + ", to " + place, file, A, B, FOUND);
                asked("skip " + skip + ", to " + place, file, A, A, NONE);
            }
        }
        // below that it is an ordinary word: with skip 128 it is asked, and the last one
        FontFile stop = oneWord(nl, 0).tagged(A, 1, 2);
        asked("skip 128, its next", with(stop, 2, 128, A, 0, D), A, A, D);
        asked("skip 128, the word at 0", stop, A, B, NONE);
        FontFile first = oneWord(nl, 5).tagged(A, 1, 0);
        asked("the first word, skip 255", with(first, 0, 255, B, 0, 5), A, B, FOUND);
        asked("the first word, skip 255, to itself", with(first, 0, 255, B, 0, 0), A, B, NONE);
        FontFile last = oneWord(6, 5).tagged(A, 1, 4);
        asked("to the last word", with(last, 4, 129, 0, 0, 5), A, B, FOUND);
        FontFile end = oneWord(6, 0).tagged(A, 1, 5);
        asked("from the last word", with(end, 5, 255, 0, 0, 0), A, B, FOUND);
    }

    private static void programBeginsInsteadOnce() {
        CHECK.sentence("Terms", "(whatever skip is there)");
        for (int skip : new int[] {128, 129, 200, 255}) {
            FontFile file = oneWord(6, 3).tagged(A, 1, 1);
            with(file, 1, 129, B, 0, 2);
            // place 2 would send on to place 3 if a program could begin instead twice
            with(file, 2, skip, B, 0, skip == 128 ? D : 3);
            asked("skip " + skip + " where it begins instead", file, A, B, skip == 128 ? D : NONE);
        }
        FontFile on = oneWord(6, 3).tagged(A, 1, 1);
        with(on, 1, 129, B, 0, 2);
        asked("skip 0 where it begins instead", with(on, 2, 0, C, 0, D), A, B, FOUND);
    }

    /** The sentence is of any program, so of the edge's too. */
    private static void edgesProgramBeginsInstead() {
        CHECK.sentence("Terms", "A program that begins at a place where skip is above 128 (the edge's)");
        for (int skip : new int[] {128, 129, 255}) {
            FontFile file = oneWord(4, 3).step(255, 0, 0, 1);
            with(file, 1, skip, B, 0, skip == 128 ? D : 3);
            asked("skip " + skip + " where the edge's begins", file, EDGE, B, skip == 128 ? D : FOUND);
        }
        FontFile twice = oneWord(4, 3).step(255, 0, 0, 1);
        with(twice, 1, 129, B, 0, 2);
        asked("instead twice", with(twice, 2, 129, B, 0, 3), EDGE, B, NONE);
        asked("the edge's begins at its own word", oneWord(1, 0).step(255, 0, 0, 1), EDGE, B, NONE);
    }

    private static void askedAbove128() {
        CHECK.sentence("Terms", "if a word's skip is above 128, nothing is found");
        for (int skip : new int[] {127, 128, 129, 200, 254, 255}) {
            FontFile file = oneWord(140, 139).tagged(A, 1, 0);
            with(file, 0, 0, C, 0, D);
            // its next is B; skip up to 128 makes it a ligature with D, skip above sends to place 139
            with(file, 1, skip, B, 0, skip > 128 ? 139 : D);
            asked("skip " + skip + " behind the first word", file, A, B, skip > 128 ? NONE : D);
        }
    }

    private static void askedNextIsR() {
        CHECK.sentence("Terms", "if its next is r, that word is found");
        FontFile file = letters().tagged(A, 1, 0);
        file.step(0, B, 0, A).step(0, C, 0, B).step(0, B, 0, C).step(128, C, 0, D);
        asked("the first of two", file, A, B, A);
        asked("the second word, not the last", file, A, C, B);
        asked("next A is none's", file, A, A, NONE);
        asked("one less than a next", file, A, D, NONE);
        FontFile all = FontFile.plain(0, 255).tagged(9, 1, 0).step(0, 0, 1, 1).step(0, 255, 2, 2).step(128, 1, 3, 3);
        asked("next 0", all, 9, 0, 256 + 1);
        asked("next 255", all, 9, 255, 512 + 2);
        asked("next 1", all, 9, 1, 768 + 3);
        asked("next 254", all, 9, 254, NONE);
    }

    private static void askedSkip128() {
        CHECK.sentence("Terms", "if its skip is 128, nothing is");
        for (int skip : new int[] {0, 127, 128}) {
            FontFile file = letters().tagged(A, 1, 0).step(skip, C, 0, A);
            for (int i = 1; i < 130; i++) {
                file.step(128, B, 1, D);
            }
            asked("skip " + skip + ", the word itself", file, A, C, A);
            asked("skip " + skip + ", a word behind it", file, A, B, skip == 128 ? NONE : FOUND);
        }
    }

    private static void askedGoesOn() {
        CHECK.sentence("Terms", "otherwise it goes on skip + 1 places further");
        for (int skip : new int[] {0, 1, 2, 64, 126, 127}) {
            for (int place : new int[] {skip, skip + 1, skip + 2}) {
                FontFile file = oneWord(131, place).tagged(A, 1, 0);
                if (place == 0) {
                    continue;
                }
                with(file, 0, skip, C, 1, D);
                asked("skip " + skip + ", place " + place, file, A, B, place == skip + 1 ? FOUND : NONE);
            }
        }
        FontFile longest = oneWord(400, 399).tagged(A, 1, 0);
        for (int i = 0; i < 399; i++) {
            with(longest, i, 0, C, 1, D);
        }
        asked("399 words further", longest, A, B, FOUND);
        asked("no word of 400", longest, A, A, NONE);
        FontFile far = oneWord(385, 384).tagged(A, 1, 0);
        for (int i = 0; i < 384; i += 128) {
            with(far, i, 127, C, 1, D);
        }
        asked("three times 128 further", far, A, B, FOUND);
    }

    private static void foundKernOrLigature() {
        CHECK.sentence("Terms", "A word that is found is a KERN if its op is 128 or more .. otherwise a LIGATURE");
        for (int op : new int[] {0, 3, 64, 124, 127, 128}) {
            FontFile file = FontFile.plain(0, 90).tagged(A, 1, 0).step(128, B, op, 1);
            file.kerns.add(0x00010000);
            file.kerns.add(0xFFFF0000);
            FontMetrics x = file.loaded();
            CHECK.due("ask(65, 66) of op " + op, x.ask(A, B), 256 * op + 1);
            Rows.add(x, A, B);
            int kept = 1 + op / 2 % 2 + op % 2;
            CHECK.due("set() of op " + op, x.set(), op >= 128 ? 3 : kept);
            int at = op >= 128 ? 1 : op / 2 % 2;
            CHECK.due("isKern of op " + op, x.isKern(at), op >= 128);
            CHECK.due("item of op " + op, x.item(at), op >= 128 ? -40960 : 1);
        }
    }

    private static void foundKernScaled() {
        CHECK.sentence("Terms", "that at the place 256 * (op - 128) + rest of the kerns, scaled");
        for (int place : new int[] {0, 1, 255, 256, 257, 511, 512}) {
            FontFile file = FontFile.plain(A, B).tagged(A, 1, 0);
            for (int i = 0; i < 513; i++) {
                file.kerns.add(16 * i + 16);
            }
            file.step(128, B, KERN + place / 256, place % 256);
            FontMetrics x = new FontMetrics();
            CHECK.due("load of place " + place, file.loadInto(x, 65536), 0);
            CHECK.due("ask of place " + place, x.ask(A, B), 256 * (KERN + place / 256) + place % 256);
            Rows.add(x, A, B);
            CHECK.due("set() of place " + place, x.set(), 3);
            CHECK.due("item(1) of place " + place, x.item(1), place + 1);
        }
    }

    private static void promise10Answer() {
        CHECK.sentence("Promise 10", "256 * op + rest of the word that is found; NONE");
        FontFile all = FontFile.plain(0, 255).tagged(A, 1, 0);
        all.kerns.add(0);
        all.step(0, 1, 0, 0).step(0, 2, 0, 255).step(0, 3, 127, 0).step(0, 4, 127, 255).step(128, 5, 128, 0);
        asked("op 0, rest 0", all, A, 1, 0);
        asked("op 0, rest 255", all, A, 2, 255);
        asked("op 127, rest 0", all, A, 3, 32512);
        asked("op 127, rest 255", all, A, 4, 32767);
        asked("op 128, rest 0", all, A, 5, 32768);
        asked("nothing", all, A, 6, -1);
    }

    private static void promise10NoProgram() {
        CHECK.sentence("Promise 10", "NONE (of a character without a program)");
        FontFile file = oneWord(256, 0);
        file.recipes.add(A);
        asked("tag 0", file.tagged(A, 0, 0), A, B, NONE);
        asked("tag 1", file.tagged(A, 1, 0), A, B, FOUND);
        asked("tag 3", file.tagged(A, 3, 0), A, B, NONE);
        FontFile larger = FontFile.plain(0, 90).tagged(A, 2, 0).step(128, B, 1, D);
        asked("tag 2", larger, A, B, NONE);
        asked("no program in the file", letters(), A, B, NONE);
    }

    private static void promise10Edge() {
        CHECK.sentence("Promise 10", "(256: the edge, for both)");
        // the edge is the number 91, which is no character, or B, which is one
        for (int number : new int[] {91, B}) {
            FontFile file = letters().tagged(A, 1, 2).tagged(B, 1, 1);
            file.step(255, number, 0, 0).step(128, C, 0, C).step(128, number, 1, D).step(255, 0, 0, 2);
            String what = "the edge is " + number;
            asked(what, file, A, EDGE, FOUND);
            asked(what, file, A, B, number == B ? FOUND : NONE);
            asked(what, file, EDGE, EDGE, FOUND);
            asked(what, file, EDGE, B, number == B ? FOUND : NONE);
            asked(what + ", whose program is not the edge's", file, B, EDGE, NONE);
            asked(what + ", whose program is not the edge's", file, B, C, C);
            asked(what, file, EDGE, C, NONE);
        }
        FontFile noEdge = letters().tagged(A, 1, 0).step(128, B, 1, D).step(255, 0, 0, 0);
        asked("no edge, but its program", noEdge, A, EDGE, NONE);
        asked("no edge, but its program", noEdge, EDGE, EDGE, NONE);
        asked("no edge, but its program", noEdge, EDGE, B, FOUND);
        FontFile noProgram = letters().tagged(A, 1, 1).step(255, B, 0, 0).step(128, B, 1, D);
        asked("an edge, but no program of it", noProgram, A, EDGE, FOUND);
        asked("an edge, but no program of it", noProgram, EDGE, EDGE, NONE);
        asked("an edge, but no program of it", noProgram, EDGE, B, NONE);
        asked("neither", letters(), EDGE, EDGE, NONE);
        // all 256 characters are there, and 256 is none of them
        FontFile all = FontFile.plain(0, 255).tagged(0, 1, 1).tagged(255, 1, 1);
        all.step(255, 0, 0, 0).step(128, 0, 1, D).step(255, 0, 0, 1);
        asked("the edge is 0 of all", all, 255, EDGE, FOUND);
        asked("the edge is 0 of all", all, 255, 0, FOUND);
        asked("the edge is 0 of all", all, 255, 255, NONE);
    }

    private static void promise10Refuses() {
        CHECK.sentence("Promise 10", "IndexOutOfBoundsException when x or r is neither there nor 256");
        FontMetrics x = letters().gone(C).step(255, 91, 0, 0).loaded();
        int[] bad = {Integer.MIN_VALUE, -256, -1, 0, 64, C, 91, 255, 257, 512, A + 256, Integer.MAX_VALUE};
        for (int c : bad) {
            for (int other : new int[] {A, 90, EDGE, -1}) {
                CHECK.noIndex("ask(" + c + ", " + other + ")", () -> x.ask(c, other));
                CHECK.noIndex("ask(" + other + ", " + c + ")", () -> x.ask(other, c));
            }
        }
        for (int c : new int[] {A, B, 90, EDGE}) {
            for (int other : new int[] {A, B, 90, EDGE}) {
                CHECK.due("ask(" + c + ", " + other + ")", x.ask(c, other), NONE);
            }
        }
    }

    private static void promise10NoFont() {
        CHECK.sentence("Promise 10", "IllegalStateException when no font is loaded");
        FontMetrics x = new FontMetrics();
        for (int c : new int[] {-1, 0, A, 255, EDGE, 257}) {
            CHECK.noFont("ask(" + c + ", 256)", () -> x.ask(c, EDGE));
            CHECK.noFont("ask(256, " + c + ")", () -> x.ask(EDGE, c));
        }
        FontFile.plain(A, B).loadInto(x, 0);
        CHECK.due("ask(65, 256) with one", x.ask(A, EDGE), NONE);
    }
}
