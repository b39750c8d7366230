/** Promise 4: load, with the faults 1 to 11. */
public final class LoadTest {
    private static final Check CHECK = new Check();
    private static final int FRACTION_TOO_LARGE = 0x01000000;
    private static final int FRACTION_TOO_SMALL = 0xFE000000;

    public static void main(String[] args) {
        faultOfBytes();
        faultOfNumbers();
        faultOfLengths();
        faultOfDesignSize();
        faultOfPlaces();
        faultOfTags();
        faultOfLargerCharacters();
        faultOfFractions();
        faultOfProgram();
        faultOfRecipes();
        faultOfParameters();
        firstFaultCounts();
        sizes();
        whatStays();
        CHECK.end("LoadTest");
    }

    private static void fault(String what, FontFile file, int want) {
        CHECK.due("load(0): " + what, file.fault(), want);
    }

    private static void faultOfBytes() {
        int[] bytes = FontFile.plain(65, 66).bytes();
        for (int n = 0; n <= bytes.length; n++) {
            int want = n < 24 ? 1 : n < bytes.length ? 4 : 0;
            CHECK.due("load(0) of " + n + " bytes", FontFile.faultOf(java.util.Arrays.copyOf(bytes, n)), want);
        }
        CHECK.due("a byte too many", FontFile.faultOf(java.util.Arrays.copyOf(bytes, bytes.length + 1)), 4);
        CHECK.due("a word too many", FontFile.faultOf(java.util.Arrays.copyOf(bytes, bytes.length + 4)), 4);
    }

    private static void faultOfNumbers() {
        FontFile file = FontFile.plain(65, 66);
        for (int number = 0; number < 12; number++) {
            CHECK.due("number " + number + " is 32768", FontFile.faultOf(file.withNumber(number, 32768)), 1);
            CHECK.due("number " + number + " is 65535", FontFile.faultOf(file.withNumber(number, 65535)), 1);
            int want = number == 2 || number == 3 ? 2 : number == 10 ? 3 : 4;
            CHECK.due("number " + number + " is 32767", FontFile.faultOf(file.withNumber(number, 32767)), want);
        }
        CHECK.due("bc is ec + 2", FontFile.faultOf(file.withNumber(2, 68)), 2);
        CHECK.due("bc is ec + 1, of another length", FontFile.faultOf(file.withNumber(2, 67)), 4);
        CHECK.due("ec is 256", FontFile.faultOf(file.withNumber(3, 256)), 2);
        CHECK.due("ec is 255, of another length", FontFile.faultOf(file.withNumber(3, 255)), 4);
        fault("no characters", FontFile.plain(1, 0), 0);
        fault("no characters behind 255", FontFile.plain(256, 255), 0);
        fault("all characters", FontFile.plain(0, 255), 0);
        CHECK.due("lh is 1", FontFile.faultOf(file.withNumber(1, 1)), 3);
        CHECK.due("lh is 0", FontFile.faultOf(file.withNumber(1, 0)), 3);
        for (int number = 4; number <= 7; number++) {
            CHECK.due("number " + number + " is 0", FontFile.faultOf(file.withNumber(number, 0)), 3);
        }
        FontFile least = new FontFile(65, 66);
        least.widths.remove(2);
        least.widths.remove(1);
        fault("one word of each measure", least, 0);
        CHECK.due("ne is 257", FontFile.faultOf(file.withNumber(10, 257)), 3);
        CHECK.due("ne is 256, of another length", FontFile.faultOf(file.withNumber(10, 256)), 4);
        while (file.recipes.size() < 256) {
            file.recipes.add(65);
        }
        fault("256 recipes", file, 0);
    }

    private static void faultOfLengths() {
        FontFile file = FontFile.plain(65, 66);
        int lf = file.words().length;
        CHECK.due("lf is one less", FontFile.faultOf(file.withNumber(0, lf - 1)), 4);
        CHECK.due("lf is one more", FontFile.faultOf(file.withNumber(0, lf + 1)), 4);
        for (int number = 0; number < 12; number++) {
            int[] bytes = file.bytes();
            bytes[2 * number + 1]++;
            // ec = bc - 1 would need bc to grow by three
            CHECK.due("number " + number + " is one more", FontFile.faultOf(bytes), 4);
        }
        int[] longer = java.util.Arrays.copyOf(file.withNumber(0, lf + 1), 4 * lf + 4);
        CHECK.due("lf and the file are one word more", FontFile.faultOf(longer), 4);
    }

    private static void faultOfDesignSize() {
        FontFile file = FontFile.plain(65, 66);
        int[] bad = {0, 1, FontFile.POINT - 1, -1, Integer.MIN_VALUE};
        for (int size : bad) {
            file.head.set(1, size);
            fault("a design size of " + size, file, 5);
        }
        int[] good = {FontFile.POINT, FontFile.POINT + 1, Integer.MAX_VALUE};
        for (int size : good) {
            file.head.set(1, size);
            fault("a design size of " + size, file, 0);
        }
        file.head.add(-1);
        file.head.set(0, -1);
        fault("other words of the head", file, 0);
    }

    private static void faultOfPlaces() {
        for (int there = 0; there < 2; there++) {
            FontFile file = FontFile.plain(65, 66);
            file.characters[66] = FontFile.word(there, 0x10, 0, 0);
            fault("a height at no place, there: " + there, file, 6);
            file.characters[66] = FontFile.word(there, 0x01, 0, 0);
            fault("a depth at no place, there: " + there, file, 6);
            file.characters[66] = FontFile.word(there, 0, 4, 0);
            fault("an italic at no place, there: " + there, file, 6);
            file.heights.add(1);
            file.depths.add(1);
            file.italics.add(1);
            file.characters[66] = FontFile.word(there, 0x11, 4, 0);
            fault("the last places, there: " + there, file, 0);
        }
        FontFile file = FontFile.plain(65, 66).measured(65, 3, 0, 0, 0);
        fault("a width at no place", file, 6);
        fault("the last width", file.measured(65, 2, 0, 0, 0), 0);
        FontFile most = FontFile.plain(65, 66);
        while (most.widths.size() < 256) {
            most.widths.add(7);
        }
        while (most.heights.size() < 16) {
            most.heights.add(7);
            most.depths.add(7);
        }
        while (most.italics.size() < 64) {
            most.italics.add(7);
        }
        fault("the largest places", most.measured(66, 255, 15, 15, 63), 0);
        most.italics.remove(63);
        fault("one italic less", most, 6);
    }

    private static void faultOfTags() {
        FontFile file = FontFile.plain(65, 67).tagged(65, 1, 0);
        fault("a program of none", file, 7);
        file.step(128, 66, 0, 66);
        fault("a program at the last place", file, 0);
        fault("a program behind the last place", file.tagged(65, 1, 1), 7);
        file.tagged(65, 3, 0);
        fault("a recipe of none", file, 7);
        file.recipes.add(66);
        fault("a recipe at the last place", file, 0);
        fault("a recipe behind the last place", file.tagged(65, 3, 1), 7);
        for (int tag = 1; tag < 4; tag++) {
            file.characters[65] = FontFile.word(0, 0, tag, 200);
            fault("tag " + tag + " of a character that is not there", file, 0);
        }
        fault("a rest without a tag", file.tagged(65, 0, 200), 0);
    }

    private static void faultOfLargerCharacters() {
        FontFile file = FontFile.plain(65, 70).tagged(65, 2, 66);
        fault("a larger character", file, 0);
        fault("a larger character that is itself", file.tagged(65, 2, 65), 7);
        fault("a larger character below bc", file.tagged(65, 2, 64), 7);
        fault("a larger character above ec", file.tagged(65, 2, 71), 7);
        fault("a larger character that is not there", file.tagged(65, 2, 66).gone(66), 7);
        file.characters[66] = FontFile.word(0, 0, 2, 65);
        fault("a larger character that is not there, but leads back", file, 7);
        file.tagged(65, 2, 66).tagged(66, 2, 65);
        fault("two that lead back", file, 7);
        file.tagged(65, 0, 0).tagged(66, 2, 65).tagged(67, 2, 66).tagged(68, 2, 66);
        fault("ways that meet", file, 0);
        file.tagged(65, 2, 67);
        fault("three that lead back, and one to them", file, 7);
        file.tagged(65, 0, 67);
        fault("only tag 2 is such a step", file, 0);
        FontFile up = FontFile.plain(0, 255);
        FontFile down = FontFile.plain(0, 255);
        for (int c = 0; c < 255; c++) {
            up.tagged(c, 2, c + 1);
            down.tagged(c + 1, 2, c);
        }
        fault("255 steps up", up, 0);
        fault("255 steps down", down, 0);
        fault("256 steps up that lead back", up.tagged(255, 2, 0), 7);
        fault("256 steps down that lead back", down.tagged(0, 2, 255), 7);
    }

    private static void faultOfFractions() {
        for (int part = 0; part < 5; part++) {
            int[] bad = {FRACTION_TOO_LARGE, FRACTION_TOO_SMALL, 0x7F000000, 0x80000000};
            for (int word : bad) {
                fault("part " + part + " ends with " + word, withMeasure(part, word), 8);
            }
            int[] good = {0x00FFFFFF, 0xFF000000, -1, 0};
            for (int word : good) {
                fault("part " + part + " ends with " + word, withMeasure(part, word), 0);
            }
        }
        for (int part = 0; part < 4; part++) {
            int[] bad = {1, 0x00010000, 0xFF000000, FRACTION_TOO_LARGE};
            for (int word : bad) {
                FontFile file = FontFile.plain(65, 66);
                measures(file, part).set(0, word);
                fault("part " + part + " begins with " + word, file, 8);
            }
        }
        FontFile file = FontFile.plain(65, 66);
        file.kerns.add(1);
        fault("the first kern is not 0", file, 0);
        file.kerns.set(0, FRACTION_TOO_LARGE);
        file.kerns.add(0);
        fault("the first kern is no fraction", file, 8);
    }

    private static FontFile withMeasure(int part, int word) {
        FontFile file = FontFile.plain(65, 66);
        measures(file, part).add(word);
        return file;
    }

    private static java.util.List<Integer> measures(FontFile file, int part) {
        switch (part) {
            case 0: return file.widths;
            case 1: return file.heights;
            case 2: return file.depths;
            case 3: return file.italics;
            default: return file.kerns;
        }
    }

    private static FontFile program() {
        FontFile file = FontFile.plain(65, 70);
        file.kerns.add(1);
        return file;
    }

    private static void faultOfProgram() {
        fault("a word that sends to itself", program().step(129, 200, 0, 0), 0);
        fault("a word that sends behind the last place", program().step(129, 65, 0, 1), 9);
        fault("a first word that sends nowhere", program().step(255, 65, 1, 0), 9);
        fault("a word that sends far", program().step(255, 65, 255, 255), 9);
        fault("the next is there", program().step(128, 70, 0, 65), 0);
        fault("the next is not there", program().step(128, 71, 0, 65), 9);
        fault("the next is below bc", program().step(128, 64, 0, 65), 9);
        fault("the next is the edge", program().step(255, 71, 0, 0).step(128, 71, 0, 65), 0);
        fault("the next is not the edge", program().step(255, 71, 0, 0).step(128, 72, 0, 65), 9);
        fault("skip 254 makes no edge", program().step(254, 71, 0, 0).step(128, 71, 0, 65), 9);
        fault("the last word makes no edge", program().step(128, 71, 0, 65).step(255, 71, 0, 0), 9);
        fault("a ligature that is not there", program().step(128, 65, 0, 71), 9);
        fault("a ligature that is the edge alone", program().step(255, 71, 0, 0).step(128, 65, 0, 71), 9);
        fault("a ligature of the largest op", program().step(128, 65, 127, 65), 0);
        fault("a ligature of the largest op, not there", program().step(128, 65, 127, 71), 9);
        fault("a kern", program().step(128, 65, 128, 0), 0);
        fault("a kern at no place", program().step(128, 65, 128, 1), 9);
        fault("a kern at place 256 of one", program().step(128, 65, 129, 0), 9);
        FontFile far = program();
        while (far.kerns.size() < 257) {
            far.kerns.add(1);
        }
        far.step(128, 65, 129, 0);
        fault("a kern at place 256 of 257", far, 0);
        fault("a kern at place 257 of 257", far.step(128, 65, 129, 1), 9);
        fault("skip 0 at the last place", program().step(0, 65, 0, 65), 9);
        fault("skip 0 before the last place", program().step(0, 65, 0, 65).step(128, 65, 0, 65), 0);
        fault("skip 1 before the last place", program().step(1, 65, 0, 65).step(128, 65, 0, 65), 9);
        FontFile skips = program().step(127, 65, 0, 65);
        for (int i = 0; i < 127; i++) {
            skips.step(128, 65, 0, 65);
        }
        fault("skip 127 with 127 words behind", skips, 9);
        fault("skip 127 with 128 words behind", skips.step(128, 65, 0, 65), 0);
        FontFile gone = program().gone(67).step(128, 67, 0, 65);
        fault("the next is between bc and ec, not there", gone, 9);
    }

    private static void faultOfRecipes() {
        int[] bad = {
            FontFile.word(0, 0, 0, 0), FontFile.word(0, 0, 0, 71), FontFile.word(0, 0, 0, 64),
            FontFile.word(71, 0, 0, 65), FontFile.word(0, 71, 0, 65), FontFile.word(0, 0, 71, 65),
            FontFile.word(1, 0, 0, 65), FontFile.word(65, 65, 65, 67),
        };
        for (int word : bad) {
            FontFile file = FontFile.plain(65, 70).gone(67);
            file.recipes.add(65);
            file.recipes.add(word);
            fault("a recipe of " + Integer.toHexString(word), file, 10);
        }
        int[] good = {FontFile.word(0, 0, 0, 65), FontFile.word(65, 66, 68, 70), FontFile.word(70, 0, 65, 70)};
        for (int word : good) {
            FontFile file = FontFile.plain(65, 70).gone(67);
            file.recipes.add(word);
            fault("a recipe of " + Integer.toHexString(word), file, 0);
        }
        FontFile zero = FontFile.plain(0, 1);
        zero.recipes.add(0);
        fault("a recipe of character 0, there", zero, 0);
    }

    private static void faultOfParameters() {
        FontFile file = FontFile.plain(65, 66);
        file.parameters.add(0x12345678);
        fault("the first parameter is no fraction", file, 0);
        file.parameters.add(0x00FFFFFF);
        file.parameters.add(0xFF000000);
        fault("the other parameters are fractions", file, 0);
        file.parameters.set(1, FRACTION_TOO_LARGE);
        fault("the second parameter is no fraction", file, 11);
        file.parameters.set(1, 0);
        file.parameters.set(2, FRACTION_TOO_SMALL);
        fault("the last parameter is no fraction", file, 11);
    }

    /** A file with all the faults 5 to 11, mended one by one. */
    private static void firstFaultCounts() {
        FontFile file = FontFile.plain(65, 70);
        file.parameters.add(0);
        file.parameters.add(FRACTION_TOO_LARGE);
        fault("fault 11 alone", file, 11);
        file.recipes.add(71);
        fault("faults from 10 on", file, 10);
        file.step(128, 65, 128, 0);
        fault("faults from 9 on", file, 9);
        file.italics.add(FRACTION_TOO_LARGE);
        fault("faults from 8 on", file, 8);
        file.tagged(70, 3, 1);
        fault("faults from 7 on", file, 7);
        file.measured(69, 1, 1, 0, 0);
        fault("faults from 6 on", file, 6);
        file.head.set(1, 0);
        fault("faults from 5 on", file, 5);
        int[] bytes = file.bytes();
        bytes[1]++;
        CHECK.due("faults from 4 on", FontFile.faultOf(bytes), 4);
        bytes[9] = 0;
        CHECK.due("faults from 3 on", FontFile.faultOf(bytes), 3);
        bytes[5] = 100;
        CHECK.due("faults from 2 on", FontFile.faultOf(bytes), 2);
        bytes[22] = 128;
        CHECK.due("faults from 1 on", FontFile.faultOf(bytes), 1);
    }

    private static void sizes() {
        FontFile file = FontFile.plain(65, 66);
        file.head.set(1, 3 * FontFile.POINT + 31);
        FontMetrics x = file.loaded();
        CHECK.due("about(2) of the design size", x.about(2), 3 * 65536 + 1);
        CHECK.due("about(3) of the design size", x.about(3), 3 * 65536 + 1);
        CHECK.due("load(1)", x.load(1), 0);
        CHECK.due("about(2) of 1", x.about(2), 1);
        CHECK.due("about(3) of 1", x.about(3), 3 * 65536 + 1);
        CHECK.due("load(134217727)", x.load(134217727), 0);
        CHECK.due("about(2) of the largest", x.about(2), 134217727);
        CHECK.noArgument("load(134217728)", () -> x.load(134217728));
        CHECK.noArgument("load(-1)", () -> x.load(-1));
        CHECK.noArgument("load(int's largest)", () -> x.load(Integer.MAX_VALUE));
        CHECK.noArgument("load(int's least)", () -> x.load(Integer.MIN_VALUE));
        CHECK.due("about(2) behind refused sizes", x.about(2), 134217727);
        file.head.set(1, Integer.MAX_VALUE);
        CHECK.due("load(0) of the largest design size", file.loadInto(x, 0), 0);
        CHECK.due("about(2) of the largest design size", x.about(2), 134217727);
        CHECK.due("about(3) of the largest design size", x.about(3), 134217727);
        FontMetrics empty = new FontMetrics();
        CHECK.noArgument("load(-1) of an empty file", () -> empty.load(-1));
    }

    private static void whatStays() {
        FontMetrics x = FontFile.plain(65, 70).loaded();
        x.add(65);
        x.add(66);
        CHECK.due("set() of two", x.set(), 2);
        x.add(67);
        CHECK.noArgument("load(-1) with items", () -> x.load(-1));
        CHECK.due("item(1) behind a load that threw", x.item(1), 66);
        x.feed(0, 1);
        CHECK.due("load(5) of a byte too many", x.load(5), 4);
        CHECK.due("about(2) behind a refused file", x.about(2), 655360);
        CHECK.due("item(1) behind a refused file", x.item(1), 66);
        CHECK.due("total() behind a refused file", x.total(), 655360);
        FontFile refused = FontFile.plain(60, 90).tagged(65, 2, 65);
        CHECK.due("another file, refused late", refused.loadInto(x, 0), 7);
        CHECK.due("about(0) behind it", x.about(0), 65);
        CHECK.due("of(65, 4) behind it", x.of(65, 4), 0);
        CHECK.due("has(71) behind it", x.has(71), false);
        x.keep(0);
        CHECK.due("of(70, 0) without the file", x.of(70, 0), 327680);
        CHECK.due("another file", FontFile.plain(66, 80).loadInto(x, 65536), 0);
        CHECK.due("about(0) of the other file", x.about(0), 66);
        CHECK.noIndex("item(0) behind a load", () -> x.item(0));
        CHECK.due("total() behind a load", x.total(), 0);
        CHECK.due("the file stays: load(1)", x.load(1), 0);
        CHECK.due("the row stays: set()", x.set(), 1);
        CHECK.due("the row stays: item(0)", x.item(0), 67);
    }
}
