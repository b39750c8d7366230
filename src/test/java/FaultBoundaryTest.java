import java.util.Arrays;
import java.util.List;

/** The boundary cases of the faults 1 to 11, each clause on both sides, and that the first one counts. */
public final class FaultBoundaryTest {
    private static final Check CHECK = new Check();
    private static final String[] NUMBERS = {
        "lf", "lh", "bc", "ec", "nw", "nh", "nd", "ni", "nl", "nk", "ne", "np",
    };
    private static final int LF = 0;
    private static final int LH = 1;
    private static final int BC = 2;
    private static final int EC = 3;
    private static final int NE = 10;
    private static final int NP = 11;

    public static void main(String[] args) {
        fault1LessThan24Bytes();
        fault1NumberAbove32767();
        fault2BcAboveEcPlus1();
        fault2EcAbove255();
        fault3LhBelow2();
        fault3NoMeasures();
        fault3NeAbove256();
        fault4LfIsNotTheSum();
        fault4FileIsNotJust4TimesLf();
        fault5DesignSizeBelow2To20();
        fault5DesignSizeWithASign();
        fault6MeasureAtNoPlace();
        fault6CharacterThatIsNotThere();
        fault7ProgramAtNoPlace();
        fault7RecipeAtNoPlace();
        fault7LargerIsNotThere();
        fault7LargerLeadsBack();
        fault7NotThereHasNoTag();
        fault8NoFraction();
        fault8FirstIsNot0000();
        fault9SendsToNoPlace();
        fault9NextIsNotThere();
        fault9LigatureIsNotThere();
        fault9KernAtNoPlace();
        fault9NoWordFurther();
        fault10LastOfRecipe();
        fault10OthersOfRecipe();
        fault11ParameterIsNoFraction();
        theFirstOfTwoCounts();
        theFirstIsNotTheFirstInTheFile();
        CHECK.end("FaultBoundaryTest");
    }

    private static void fault(String what, FontFile file, int want) {
        fault(what, file.bytes(), want);
    }

    private static void fault(String what, int[] bytes, int want) {
        CHECK.due("load(0): " + what, FontFile.faultOf(bytes), want);
    }

    private static FontFile letters() {
        return FontFile.plain(65, 70);
    }

    private static void fault1LessThan24Bytes() {
        CHECK.sentence("Fault 1", "the file has less than 24 bytes");
        int[] bytes = letters().bytes();
        fault("no bytes", new int[0], 1);
        fault("1 byte", Arrays.copyOf(bytes, 1), 1);
        fault("23 bytes", Arrays.copyOf(bytes, 23), 1);
        fault("24 bytes", Arrays.copyOf(bytes, 24), 4);
        fault("25 bytes", Arrays.copyOf(bytes, 25), 4);
        fault("23 bytes of zeros", new int[23], 1);
        fault("24 bytes of zeros", new int[24], 3);
        FontMetrics x = new FontMetrics();
        FontFile.feed(x, bytes);
        x.keep(24);
        CHECK.due("load(0): 24 bytes kept of more", x.load(0), 4);
        x.keep(23);
        CHECK.due("load(0): 23 bytes kept of more", x.load(0), 1);
    }

    private static void fault1NumberAbove32767() {
        CHECK.sentence("Fault 1", "or one of the twelve numbers is above 32767");
        for (int number = 0; number < 12; number++) {
            String name = NUMBERS[number];
            int below = number == BC || number == EC ? 2 : number == NE ? 3 : 4;
            fault(name + " is 32767", letters().withNumber(number, 32767), below);
            fault(name + " is 32768", letters().withNumber(number, 32768), 1);
            fault(name + " is 65535", letters().withNumber(number, 65535), 1);
        }
    }

    /** The lengths agree on both sides, a part of -1 words counted so, that no other fault comes first. */
    private static void fault2BcAboveEcPlus1() {
        CHECK.sentence("Fault 2", "bc is above ec + 1");
        for (int ec : new int[] {0, 1, 65, 254, 255}) {
            FontFile file = FontFile.plain(ec + 1, ec);
            fault("bc is ec + 1, ec " + ec, file, 0);
            fault("bc is ec, ec " + ec, FontFile.plain(ec, ec), 0);
            int[] bytes = file.withNumber(BC, ec + 2);
            fault("bc is ec + 2, ec " + ec, bytes, 2);
            int lf = bytes.length / 4 - 1;
            bytes[2 * LF] = lf >> 8;
            bytes[2 * LF + 1] = lf & 255;
            fault("bc is ec + 2, lf one less, ec " + ec, bytes, 2);
            fault("bc is ec + 2, the file a word less, ec " + ec, Arrays.copyOf(bytes, bytes.length - 4), 2);
        }
        fault("bc is 32767", FontFile.plain(1, 0).withNumber(BC, 32767), 2);
    }

    private static void fault2EcAbove255() {
        CHECK.sentence("Fault 2", "or ec above 255");
        FontFile file = FontFile.plain(250, 255);
        fault("ec is 255", file, 0);
        int[] longer = Arrays.copyOf(file.withNumber(EC, 256), 4 * file.words().length + 4);
        fault("ec is 256", file.withNumber(EC, 256), 2);
        longer[2 * LF + 1]++;
        fault("ec is 256, and the lengths agree", longer, 2);
        FontFile none = FontFile.plain(256, 255);
        fault("bc is 256, ec 255", none, 0);
        int[] both = none.withNumber(BC, 257);
        both[2 * EC] = 1;
        both[2 * EC + 1] = 0;
        fault("bc is 257, ec 256", both, 2);
        fault("ec is 32767", file.withNumber(EC, 32767), 2);
    }

    private static void fault3LhBelow2() {
        CHECK.sentence("Fault 3", "lh is below 2");
        for (int lh = 0; lh < 4; lh++) {
            FontFile file = letters();
            file.head.clear();
            for (int i = 0; i < lh; i++) {
                file.head.add(10 * FontFile.POINT);
            }
            fault("lh is " + lh, file, lh < 2 ? 3 : 0);
        }
    }

    private static void fault3NoMeasures() {
        CHECK.sentence("Fault 3", "or nw, nh, nd or ni is 0");
        for (int part = 0; part < 4; part++) {
            // no character is there, so that one width is enough
            FontFile file = new FontFile(65, 70);
            file.widths.clear();
            file.widths.add(0);
            fault("one of each, " + NUMBERS[4 + part], file, 0);
            measures(file).get(part).clear();
            fault(NUMBERS[4 + part] + " is 0", file, 3);
            fault(NUMBERS[4 + part] + " is 0, the file longer", letters().withNumber(4 + part, 0), 3);
        }
    }

    private static List<List<Integer>> measures(FontFile file) {
        return List.of(file.widths, file.heights, file.depths, file.italics);
    }

    private static void fault3NeAbove256() {
        CHECK.sentence("Fault 3", "or ne is above 256");
        FontFile file = letters();
        while (file.recipes.size() < 255) {
            file.recipes.add(65);
        }
        fault("ne is 255", file, 0);
        file.recipes.add(65);
        fault("ne is 256", file, 0);
        file.recipes.add(65);
        fault("ne is 257", file, 3);
        fault("ne is 32767", letters().withNumber(NE, 32767), 3);
    }

    /** The file has 4 * lf bytes each time, so that it is the sum alone that may be wrong. */
    private static void fault4LfIsNotTheSum() {
        CHECK.sentence("Fault 4", "lf is not 6 more than lh, ec - bc + 1, nw, nh, nd, ni, nl, nk, ne and np together");
        FontFile file = letters();
        int lf = file.words().length;
        fault("lf is the sum", file, 0);
        for (int more : new int[] {-6, -1, 1, 6}) {
            int[] bytes = Arrays.copyOf(file.withNumber(LF, lf + more), 4 * (lf + more));
            fault("lf is " + more + " more", bytes, 4);
        }
        FontFile full = fullFile();
        fault("a file with words of each part", full, 0);
        for (int number = LH; number <= NP; number++) {
            for (int more = -1; more <= 1; more += 2) {
                int[] bytes = full.bytes();
                bytes[2 * number + 1] += more;
                fault(NUMBERS[number] + " is " + more + " more", bytes, 4);
            }
        }
    }

    /** Three words in each part, so that each number may be one less without being too small. */
    private static FontFile fullFile() {
        FontFile file = letters().step(128, 65, 0, 65).step(128, 66, 0, 66).step(128, 67, 0, 67);
        file.head.add(0);
        for (int i = 0; i < 3; i++) {
            file.kerns.add(0);
            file.recipes.add(65);
            file.parameters.add(0);
        }
        for (List<Integer> part : measures(file)) {
            while (part.size() < 3) {
                part.add(0);
            }
        }
        return file;
    }

    private static void fault4FileIsNotJust4TimesLf() {
        CHECK.sentence("Fault 4", "or the file has not just 4 * lf bytes");
        int[] bytes = fullFile().bytes();
        for (int more = -5; more <= 5; more++) {
            int want = more == 0 ? 0 : 4;
            fault(more + " bytes more", Arrays.copyOf(bytes, bytes.length + more), want);
        }
    }

    private static void fault5DesignSizeBelow2To20() {
        CHECK.sentence("Fault 5", "word 1 of the head is below 2^20");
        designSize(0, 5);
        designSize(1, 5);
        designSize(1048575, 5);
        designSize(1048576, 0);
        designSize(1048577, 0);
        FontFile file = letters();
        file.head.set(0, 0);
        fault("word 0 of the head is 0", file, 0);
        file.head.add(0);
        fault("word 2 of the head is 0", file, 0);
    }

    private static void fault5DesignSizeWithASign() {
        CHECK.sentence("Fault 5", "as a number of 32 bits with a sign");
        designSize(Integer.MAX_VALUE, 0);
        designSize(Integer.MIN_VALUE, 5);
        designSize(Integer.MIN_VALUE + 1048576, 5);
        designSize(-1048576, 5);
        designSize(-1, 5);
    }

    private static void designSize(int word, int want) {
        FontFile file = letters();
        file.head.set(1, word);
        fault("word 1 of the head is " + word, file, want);
    }

    private static void fault6MeasureAtNoPlace() {
        CHECK.sentence("Fault 6", "a character of bc .. ec has a width, height, depth or italic at no place");
        int[] most = {256, 16, 16, 64};
        for (int part = 0; part < 4; part++) {
            for (int words : new int[] {2, 3, most[part] - 1, most[part]}) {
                for (int c : new int[] {65, 67, 70}) {
                    placed(part, words, c, words - 1, 0);
                    if (words < most[part]) {
                        placed(part, words, c, words, 6);
                        placed(part, words, c, most[part] - 1, 6);
                    }
                }
            }
        }
        FontFile least = letters().measured(66, 1, 1, 0, 0);
        fault("height 1 of one", least, 6);
        fault("depth 1 of one", least.measured(66, 1, 0, 1, 0), 6);
        fault("italic 1 of one", least.measured(66, 1, 0, 0, 1), 6);
        fault("place 0 of one", least.measured(66, 1, 0, 0, 0), 0);
    }

    private static void placed(int part, int words, int c, int place, int want) {
        FontFile file = letters();
        List<Integer> measure = measures(file).get(part);
        while (measure.size() > words) {
            measure.remove(measure.size() - 1);
        }
        while (measure.size() < words) {
            measure.add(1);
        }
        int[] places = {1, 0, 0, 0};
        places[part] = place;
        file.measured(c, places[0], places[1], places[2], places[3]);
        fault(NUMBERS[4 + part] + " is " + words + ", character " + c + " at place " + place, file, want);
    }

    /** The sentence tells of all characters of bc .. ec, so of those without a width too. */
    private static void fault6CharacterThatIsNotThere() {
        CHECK.sentence("Fault 6", "a character of bc .. ec (one that is not there)");
        FontFile file = letters();
        fault("places 0", file.measured(66, 0, 0, 0, 0), 0);
        fault("a height at no place", file.measured(66, 0, 1, 0, 0), 6);
        fault("a depth at no place", file.measured(66, 0, 0, 1, 0), 6);
        fault("an italic at no place", file.measured(66, 0, 0, 0, 1), 6);
        file.heights.add(1);
        file.depths.add(1);
        file.italics.add(1);
        fault("all at a place", file.measured(66, 0, 1, 1, 1), 0);
    }

    private static void fault7ProgramAtNoPlace() {
        CHECK.sentence("Fault 7", "a program or recipe at no place (a program)");
        fault("nl 0, rest 0", letters().tagged(67, 1, 0), 7);
        for (int nl : new int[] {1, 2, 255, 256, 257}) {
            FontFile file = letters();
            for (int i = 0; i < nl; i++) {
                file.step(128, 65, 0, 65);
            }
            for (int c : new int[] {65, 70}) {
                file.tagged(65, 0, 0).tagged(70, 0, 0);
                int last = Math.min(nl - 1, 255);
                fault("nl " + nl + ", rest 0", file.tagged(c, 1, 0), 0);
                fault("nl " + nl + ", rest " + last, file.tagged(c, 1, last), 0);
                if (nl < 256) {
                    fault("nl " + nl + ", rest " + nl, file.tagged(c, 1, nl), 7);
                    fault("nl " + nl + ", rest 255", file.tagged(c, 1, 255), 7);
                }
            }
        }
    }

    private static void fault7RecipeAtNoPlace() {
        CHECK.sentence("Fault 7", "a program or recipe at no place (a recipe)");
        fault("ne 0, rest 0", letters().tagged(67, 3, 0), 7);
        for (int ne : new int[] {1, 2, 255, 256}) {
            FontFile file = letters();
            while (file.recipes.size() < ne) {
                file.recipes.add(65);
            }
            fault("ne " + ne + ", rest 0", file.tagged(67, 3, 0), 0);
            fault("ne " + ne + ", rest " + (ne - 1), file.tagged(67, 3, ne - 1), 0);
            if (ne < 256) {
                fault("ne " + ne + ", rest " + ne, file.tagged(67, 3, ne), 7);
                fault("ne " + ne + ", rest 255", file.tagged(67, 3, 255), 7);
            }
        }
    }

    private static void fault7LargerIsNotThere() {
        CHECK.sentence("Fault 7", "or a next larger character that is not there");
        FontFile file = letters().gone(68);
        fault("below bc", file.tagged(67, 2, 64), 7);
        fault("bc", file.tagged(67, 2, 65), 0);
        fault("ec", file.tagged(67, 2, 70), 0);
        fault("above ec", file.tagged(67, 2, 71), 7);
        fault("0", file.tagged(67, 2, 0), 7);
        fault("255", file.tagged(67, 2, 255), 7);
        fault("between, without a width", file.tagged(67, 2, 68), 7);
        fault("between, with a width", file.tagged(67, 2, 68).tagged(68, 0, 0), 0);
        file.tagged(67, 2, 69).tagged(69, 2, 71);
        fault("there, but its own is not", file, 7);
        FontFile all = FontFile.plain(0, 255);
        fault("0 of all", all.tagged(67, 2, 0), 0);
        fault("255 of all", all.tagged(67, 2, 255), 0);
    }

    private static void fault7LargerLeadsBack() {
        CHECK.sentence("Fault 7", "or from which such steps lead back to the character");
        fault("one step to itself", letters().tagged(65, 2, 65), 7);
        fault("the last one to itself", letters().tagged(70, 2, 70), 7);
        for (int steps : new int[] {2, 3, 6}) {
            FontFile file = letters();
            for (int i = 0; i < steps - 1; i++) {
                file.tagged(65 + i, 2, 66 + i);
            }
            fault(steps + " characters in a line", file, 0);
            fault(steps + " characters in a ring", file.tagged(64 + steps, 2, 65), 7);
            fault(steps + " characters, tag 0 and rest", file.tagged(64 + steps, 0, 65), 0);
        }
        FontFile all = FontFile.plain(0, 255);
        for (int c = 0; c < 255; c++) {
            all.tagged(c, 2, c + 1);
        }
        fault("256 characters in a line", all, 0);
        fault("256 characters in a ring", all.tagged(255, 2, 0), 7);
        fault("a line into a ring of one", all.tagged(255, 2, 255), 7);
        fault("a line into a ring of two", all.tagged(255, 2, 254), 7);
        FontFile down = FontFile.plain(0, 255);
        for (int c = 1; c < 256; c++) {
            down.tagged(c, 2, c - 1);
        }
        fault("256 characters in a line down", down, 0);
        fault("two lines that meet", letters().tagged(65, 2, 67).tagged(66, 2, 67).tagged(67, 2, 70), 0);
    }

    private static void fault7NotThereHasNoTag() {
        CHECK.sentence("Fault 7", "(characters that are not there have no tag)");
        for (int tag = 1; tag <= 3; tag++) {
            for (int rest : new int[] {0, 66, 255}) {
                FontFile file = letters();
                file.characters[66] = FontFile.word(0, 0, tag, rest);
                fault("not there, tag " + tag + ", rest " + rest, file, 0);
                file.characters[66] = FontFile.word(1, 0, tag, rest);
                fault("there, tag " + tag + ", rest " + rest, file, 7);
            }
        }
    }

    private static void fault8NoFraction() {
        CHECK.sentence("Fault 8", "a word of widths, heights, depths, italics or kerns is no fraction");
        CHECK.due("the parts", fractions(letters()).size(), 5);
        for (int part = 0; part < 5; part++) {
            for (int a : new int[] {0, 1, 2, 127, 128, 253, 254, 255}) {
                int want = a == 0 || a == 255 ? 0 : 8;
                for (int low : new int[] {0, 1, 0x00FFFFFF}) {
                    fraction(part, a << 24 | low, want);
                }
            }
        }
    }

    /** The word stands behind as few words as may be, then as the last of more, then in their midst. */
    private static void fraction(int part, int word, int want) {
        String what = Integer.toHexString(word) + " in part " + part;
        FontFile file = letters();
        List<Integer> words = fractions(file).get(part);
        while (words.size() > 1) {
            words.remove(words.size() - 1);
        }
        words.add(word);
        fault(what + ", word " + (words.size() - 1), file, want);
        words.set(words.size() - 1, 0);
        words.add(0);
        words.add(word);
        fault(what + ", the last word", file, want);
        words.add(0);
        fault(what + ", the last word but one", file, want);
        if (part == 4) {
            words.set(0, word);
            words.set(words.size() - 2, 0);
            fault(what + ", the first word", file, want);
        }
    }

    private static List<List<Integer>> fractions(FontFile file) {
        return List.of(file.widths, file.heights, file.depths, file.italics, file.kerns);
    }

    private static void fault8FirstIsNot0000() {
        CHECK.sentence("Fault 8", "or the first one of widths, heights, depths or italics is not 0 0 0 0");
        for (int part = 0; part < 4; part++) {
            for (int word : new int[] {1, 128, 0x00000100, 0x00010000, 0x00800000, 0x01000000, 0xFF000000, -1}) {
                FontFile file = letters();
                measures(file).get(part).set(0, word);
                fault("part " + part + " begins with " + Integer.toHexString(word), file, 8);
            }
        }
        FontFile file = letters();
        file.kerns.add(1);
        fault("the kerns begin with 1", file, 0);
        file.kerns.set(0, 0xFF000000);
        fault("the kerns begin with ff000000", file, 0);
        file.kerns.set(0, 0x01000000);
        fault("the kerns begin with 1000000", file, 8);
    }

    /** A program of so many words, all of which stop and make a ligature 65 before 65. */
    private static FontFile program(int nl) {
        FontFile file = letters();
        for (int i = 0; i < nl; i++) {
            file.step(128, 65, 0, 65);
        }
        return file;
    }

    private static FontFile with(FontFile file, int place, int skip, int next, int op, int rest) {
        file.program.set(place, FontFile.word(skip, next, op, rest));
        return file;
    }

    private static void fault9SendsToNoPlace() {
        CHECK.sentence("Fault 9", "a word with skip above 128 whose 256 * c + d is no place of the program");
        for (int nl : new int[] {1, 2, 255, 256, 257, 300}) {
            for (int skip : new int[] {129, 254, 255}) {
                for (int place : new int[] {0, nl / 2, nl - 1}) {
                    String what = "nl " + nl + ", skip " + skip + " at " + place;
                    fault(what + ", to 0", with(program(nl), place, skip, 9, 0, 0), 0);
                    fault(what + ", to the last", sent(nl, place, skip, nl - 1), 0);
                    fault(what + ", behind the last", sent(nl, place, skip, nl), 9);
                    fault(what + ", to 65535", sent(nl, place, skip, 65535), 9);
                }
            }
        }
        fault("skip 128 sends nowhere", with(program(2), 0, 128, 65, 1, 65), 0);
    }

    private static FontFile sent(int nl, int place, int skip, int to) {
        return with(program(nl), place, skip, 9, to >> 8, to & 255);
    }

    private static void fault9NextIsNotThere() {
        CHECK.sentence("Fault 9", "or one with skip up to 128 whose next is neither there nor the edge");
        for (int skip : new int[] {0, 127, 128}) {
            int[] nexts = {0, 64, 65, 68, 70, 71, 255};
            for (int next : nexts) {
                boolean there = next == 65 || next == 70;
                FontFile file = program(130).gone(68);
                fault("skip " + skip + ", next " + next, with(file, 1, skip, next, 0, 65), there ? 0 : 9);
                with(file, 0, 255, next, 0, 0);
                fault("skip " + skip + ", next " + next + " is the edge", file, 0);
                with(file, 0, 255, next ^ 1, 0, 0);
                fault("skip " + skip + ", next " + next + " is not the edge", file, there ? 0 : 9);
                with(file, 0, 254, next, 0, 0);
                fault("skip " + skip + ", next " + next + ", there is no edge", file, there ? 0 : 9);
            }
        }
        fault("skip 129, next not there", with(program(2), 1, 129, 71, 0, 0), 0);
        fault("skip 255, next not there", with(program(2), 1, 255, 71, 0, 0), 0);
        fault("the edge is not that of the last word", program(1).step(128, 71, 0, 65).step(255, 71, 0, 0), 9);
    }

    private static void fault9LigatureIsNotThere() {
        CHECK.sentence("Fault 9", "or that is a ligature with a character that is not there");
        for (int op : new int[] {0, 1, 126, 127}) {
            for (int rest : new int[] {0, 64, 65, 68, 70, 71, 255}) {
                boolean there = rest == 65 || rest == 70;
                FontFile file = program(2).gone(68);
                fault("op " + op + ", rest " + rest, with(file, 1, 128, 65, op, rest), there ? 0 : 9);
                with(file, 0, 255, rest, 0, 0);
                fault("op " + op + ", rest " + rest + " is the edge", file, there ? 0 : 9);
            }
        }
        FontFile kern = program(2);
        kern.kerns.add(1);
        fault("op 128, rest 0, which is no character", with(kern, 1, 128, 65, 128, 0), 0);
        fault("skip 129, rest 1, which is no character", with(program(2), 1, 129, 65, 0, 1), 0);
    }

    private static void fault9KernAtNoPlace() {
        CHECK.sentence("Fault 9", "or a kern at no place");
        fault("nk 0, place 0", with(program(1), 0, 128, 65, 128, 0), 9);
        for (int nk : new int[] {1, 2, 66, 255, 256, 257, 512}) {
            FontFile file = program(1);
            while (file.kerns.size() < nk) {
                file.kerns.add(1);
            }
            int[] good = {0, nk - 1};
            int[] bad = {nk, nk + 1, 32767};
            for (int place : good) {
                fault("nk " + nk + ", place " + place, with(file, 0, 128, 65, 128 + place / 256, place % 256), 0);
            }
            for (int place : bad) {
                fault("nk " + nk + ", place " + place, with(file, 0, 128, 65, 128 + place / 256, place % 256), 9);
            }
        }
    }

    private static void fault9NoWordFurther() {
        CHECK.sentence("Fault 9", "or with skip below 128 and no word skip + 1 places further");
        for (int skip : new int[] {0, 1, 2, 63, 126, 127}) {
            for (int place : new int[] {0, 1, 5}) {
                String what = "skip " + skip + " at " + place + ", ";
                int least = place + skip + 2;
                fault(what + "just enough words", with(program(least), place, skip, 65, 0, 65), 0);
                fault(what + "one word less", with(program(least - 1), place, skip, 65, 0, 65), 9);
            }
        }
        fault("skip 128 at the last place", with(program(1), 0, 128, 65, 0, 65), 0);
        fault("skip 127 at the last place", with(program(1), 0, 127, 65, 0, 65), 9);
        fault("skip 129 at the last place", with(program(1), 0, 129, 65, 0, 0), 0);
    }

    private static void recipe(int a, int b, int c, int d, int want) {
        for (int before = 0; before < 2; before++) {
            FontFile file = letters().gone(68);
            for (int i = 0; i < before; i++) {
                file.recipes.add(65);
            }
            file.recipes.add(FontFile.word(a, b, c, d));
            fault("recipe " + before + " is " + a + " " + b + " " + c + " " + d, file, want);
        }
    }

    private static void fault10LastOfRecipe() {
        CHECK.sentence("Fault 10", "a recipe whose d is not there");
        recipe(0, 0, 0, 64, 10);
        recipe(0, 0, 0, 65, 0);
        recipe(0, 0, 0, 70, 0);
        recipe(0, 0, 0, 71, 10);
        recipe(0, 0, 0, 68, 10);
        recipe(0, 0, 0, 255, 10);
        recipe(0, 0, 0, 0, 10);
        recipe(65, 65, 65, 0, 10);
        FontFile zero = FontFile.plain(0, 3);
        zero.recipes.add(0);
        fault("d is 0, which is there", zero, 0);
    }

    private static void fault10OthersOfRecipe() {
        CHECK.sentence("Fault 10", "or one of whose a, b, c is not 0 and not there");
        for (int k = 0; k < 3; k++) {
            for (int c : new int[] {0, 1, 64, 65, 68, 70, 71, 255}) {
                int[] parts = {0, 0, 0};
                parts[k] = c;
                boolean holds = c == 0 || c == 65 || c == 70;
                recipe(parts[0], parts[1], parts[2], 66, holds ? 0 : 10);
            }
        }
        recipe(65, 66, 67, 70, 0);
    }

    private static void fault11ParameterIsNoFraction() {
        CHECK.sentence("Fault 11", "a parameter but the first one that is no fraction");
        fault("no parameters", letters(), 0);
        for (int np : new int[] {1, 2, 3, 22}) {
            for (int at = 0; at < np; at++) {
                for (int a : new int[] {0, 1, 127, 128, 254, 255}) {
                    FontFile file = letters();
                    while (file.parameters.size() < np) {
                        file.parameters.add(0);
                    }
                    file.parameters.set(at, a << 24 | 5);
                    boolean holds = at == 0 || a == 0 || a == 255;
                    fault("np " + np + ", a is " + a + " in parameter " + (at + 1), file, holds ? 0 : 11);
                }
            }
        }
    }

    /** A file with just these two faults; 0 makes none. */
    private static int[] spoilt(int one, int other) {
        FontFile file = letters();
        file.parameters.add(0);
        file.parameters.add(0);
        int[] faults = {one, other};
        for (int fault : faults) {
            spoil(file, fault);
        }
        int[] bytes = file.bytes();
        for (int fault : faults) {
            bytes = spoil(bytes, fault);
        }
        return bytes;
    }

    private static void spoil(FontFile file, int fault) {
        switch (fault) {
            case 5: file.head.set(1, 1048575); break;
            case 6: file.measured(69, 1, 1, 0, 0); break;
            case 7: file.tagged(66, 3, 200); break;
            case 8: file.kerns.add(0x01000000); break;
            case 9: file.step(128, 71, 0, 65); break;
            case 10: file.recipes.add(71); break;
            case 11: file.parameters.set(1, 0x01000000); break;
            default: break;
        }
    }

    private static int[] spoil(int[] bytes, int fault) {
        switch (fault) {
            case 1: bytes[2 * NP] = 128; return bytes;
            case 2: bytes[2 * BC] = 1; return bytes;
            case 3: bytes[2 * LH + 1] = 1; return bytes;
            case 4: return Arrays.copyOf(bytes, bytes.length + 1);
            default: return bytes;
        }
    }

    private static void theFirstOfTwoCounts() {
        CHECK.sentence("Terms", "FAULTS, the first one counts");
        fault("no fault", spoilt(0, 0), 0);
        for (int one = 1; one <= 11; one++) {
            fault("fault " + one + " alone", spoilt(one, 0), one);
            for (int other = one + 1; other <= 11; other++) {
                fault("faults " + one + " and " + other, spoilt(one, other), one);
            }
        }
    }

    /** The order is that of the faults' numbers, whichever word comes first in the file. */
    private static void theFirstIsNotTheFirstInTheFile() {
        CHECK.sentence("Terms", "FAULTS, the first one counts (not the first one in the file)");
        fault("fault 7 of 65, fault 6 of 70", letters().tagged(65, 2, 65).measured(70, 1, 0, 1, 0), 6);
        fault("fault 7 of 65 and 6 of one not there", letters().tagged(65, 1, 0).measured(70, 0, 0, 1, 0), 6);
        FontFile kerns = letters().step(0, 65, 0, 65);
        kerns.kerns.add(0x02000000);
        fault("fault 9 in the program, 8 in the kerns behind it", kerns, 8);
        FontFile tags = letters().tagged(70, 2, 70);
        tags.head.set(1, 0);
        fault("fault 5 in the head, 7 in the characters", tags, 5);
        FontFile widths = letters().tagged(70, 2, 70);
        widths.widths.set(0, 1);
        fault("fault 7 in the last character, 8 in the first width", widths, 7);
        fault("24 bytes alone, of which none counts but lf", Arrays.copyOf(spoilt(11, 5), 24), 4);
        fault("23 bytes with fault 2", Arrays.copyOf(spoilt(2, 3), 23), 1);
    }
}
