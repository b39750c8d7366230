import java.io.ByteArrayOutputStream;
import java.io.IOException;
import java.io.PrintStream;
import java.lang.reflect.Method;
import java.lang.reflect.Modifier;
import java.nio.file.DirectoryStream;
import java.nio.file.Files;
import java.nio.file.Path;

/** What README.md says of the use holds: its example runs as it stands there, and its tables are whole. */
public final class UseTest {
    private static final Path README = Path.of("README.md");
    private static final Path TESTS = Path.of("src/test/java");

    public static void main(String[] args) throws IOException {
        Check check = new Check();
        String readme = Files.readString(README);
        exampleIsTheOneHere(check, readme);
        exampleTellsAKern(check);
        exampleTellsAFault(check);
        exampleTellsNothingOfWhatIsNotThere(check);
        exampleTakesALongFile(check);
        everyCallIsTold(check, readme);
        everyTestIsTold(check, readme);
        check.end("UseTest");
    }

    /** README.md's example, line by line. */
    private static void use(byte[] bytes) {
        FontMetrics x = new FontMetrics();
        for (int at = 0; at < bytes.length; at += 8) {
            int n = Math.min(8, bytes.length - at);
            long w = 0;
            for (int i = 0; i < n; i++) {
                w = w << 8 | bytes[at + i] & 255;
            }
            x.feed(w, n);                   // false when there would be more than 8192 bytes
        }
        int fault = x.load(0);              // 0: at its design size; 655360: at ten points
        if (fault != 0) {
            System.out.println("refused with fault " + fault);
            return;
        }
        if (x.has('A')) {
            System.out.println("A is " + x.of('A', 0) + " wide");
        }
        x.add('A');
        x.add('V');
        int items = x.set();                // or NONE, or TOO_MANY: then there are no items
        for (int i = 0; i < items; i++) {
            System.out.println((x.isKern(i) ? "kern " : "character ") + x.item(i));
        }
        System.out.println("together " + x.total() + " wide");
    }

    private static void exampleIsTheOneHere(Check check, String readme) throws IOException {
        String opening = "```java\n";
        int start = readme.indexOf(opening);
        int end = readme.indexOf("```", start + opening.length());
        check.due("README.md has an example", start >= 0 && end >= 0, true);
        if (start < 0 || end < 0) {
            return;
        }
        String example = readme.substring(start + opening.length(), end).indent(8);
        String here = Files.readString(TESTS.resolve("UseTest.java"));
        check.due("README.md's example is the one of this test", here.contains(example), true);
    }

    private static void exampleTellsAKern(Check check) {
        FontFile file = Rows.letters().tagged('A', 1, 0).step(128, 'V', Rows.KERN, 1);
        check.same("the example with a kern", told(file.bytes()),
            "A is 327680 wide\ncharacter 65\nkern -40960\ncharacter 86\ntogether 614400 wide\n");
    }

    private static void exampleTellsAFault(Check check) {
        check.same("the example without a file", told(new int[0]), "refused with fault 1\n");
        FontFile file = Rows.letters();
        file.kerns.add(0x01000000);
        check.same("the example with a bad kern", told(file.bytes()), "refused with fault 8\n");
    }

    private static void exampleTellsNothingOfWhatIsNotThere(Check check) {
        check.same("the example without A", told(Rows.letters().gone('A').bytes()), "together 0 wide\n");
    }

    /** As long as a file may be for three items: behind feed the example makes 13 of the 512 calls then. */
    private static void exampleTakesALongFile(Check check) {
        FontFile file = Rows.letters();
        while (file.words().length < 2 * (512 - 13)) {
            file.head.add(0xFFFFFFFF);
        }
        check.same("the example with a long file", told(file.bytes()),
            "A is 327680 wide\ncharacter 65\ncharacter 86\ntogether 655360 wide\n");
    }

    private static String told(int[] values) {
        byte[] bytes = new byte[values.length];
        for (int i = 0; i < bytes.length; i++) {
            bytes[i] = (byte) values[i];
        }
        PrintStream before = System.out;
        ByteArrayOutputStream told = new ByteArrayOutputStream();
        System.setOut(new PrintStream(told, true));
        try {
            use(bytes);
        } finally {
            System.setOut(before);
        }
        return told.toString().replace(System.lineSeparator(), "\n");
    }

    private static void everyCallIsTold(Check check, String readme) {
        for (Method method : FontMetrics.class.getDeclaredMethods()) {
            if (Modifier.isPublic(method.getModifiers())) {
                boolean row = readme.lines()
                    .anyMatch(line -> line.startsWith("| `") && line.contains("`" + method.getName() + "("));
                check.due("README.md's table tells of " + method.getName(), row, true);
            }
        }
    }

    private static void everyTestIsTold(Check check, String readme) throws IOException {
        try (DirectoryStream<Path> tests = Files.newDirectoryStream(TESTS, "*Test.java")) {
            for (Path test : tests) {
                String name = test.getFileName().toString().replace(".java", "");
                check.due("README.md's tables tell of " + name, readme.contains("| `" + name + "` |"), true);
            }
        }
    }
}
