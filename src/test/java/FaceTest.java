import java.lang.reflect.Constructor;
import java.lang.reflect.Field;
import java.lang.reflect.Member;
import java.lang.reflect.Method;
import java.lang.reflect.Modifier;
import java.util.TreeSet;

/** The class has the face of the document and nothing beside it. */
public final class FaceTest {
    private static final String[] FACE = {
        "public static final int FontMetrics.NONE",
        "public static final int FontMetrics.TOO_MANY",
        "public FontMetrics()",
        "public boolean FontMetrics.feed(long,int)",
        "public boolean FontMetrics.keep(int)",
        "public int FontMetrics.load(int) throws java.lang.IllegalArgumentException",
        "public int FontMetrics.about(int)"
            + " throws java.lang.IllegalStateException,java.lang.IndexOutOfBoundsException",
        "public boolean FontMetrics.has(int)",
        "public int FontMetrics.of(int,int)"
            + " throws java.lang.IllegalStateException,java.lang.IndexOutOfBoundsException",
        "public int FontMetrics.part(int,int)"
            + " throws java.lang.IllegalStateException,java.lang.IndexOutOfBoundsException",
        "public int FontMetrics.parameter(int)"
            + " throws java.lang.IllegalStateException,java.lang.IndexOutOfBoundsException",
        "public int FontMetrics.ask(int,int)"
            + " throws java.lang.IllegalStateException,java.lang.IndexOutOfBoundsException",
        "public boolean FontMetrics.add(int)",
        "public int FontMetrics.set() throws java.lang.IllegalStateException",
        "public boolean FontMetrics.isKern(int) throws java.lang.IndexOutOfBoundsException",
        "public int FontMetrics.item(int) throws java.lang.IndexOutOfBoundsException",
        "public long FontMetrics.total()",
    };

    public static void main(String[] args) {
        Check check = new Check();
        TreeSet<String> want = new TreeSet<>(java.util.List.of(FACE));
        TreeSet<String> got = new TreeSet<>();
        for (Field field : FontMetrics.class.getDeclaredFields()) {
            note(got, field, field.toGenericString());
        }
        for (Constructor<?> constructor : FontMetrics.class.getDeclaredConstructors()) {
            note(got, constructor, constructor.toGenericString());
        }
        for (Method method : FontMetrics.class.getDeclaredMethods()) {
            note(got, method, method.toGenericString());
        }
        for (String member : want) {
            check.due("a member " + member, got.contains(member), true);
        }
        for (String member : got) {
            check.due("a member " + member, want.contains(member), true);
        }
        int modifiers = FontMetrics.class.getModifiers();
        check.due("public final", modifiers, Modifier.PUBLIC | Modifier.FINAL);
        check.due("NONE", FontMetrics.NONE, -1);
        check.due("TOO_MANY", FontMetrics.TOO_MANY, -2);
        check.end("FaceTest");
    }

    private static void note(TreeSet<String> got, Member member, String text) {
        if (!Modifier.isPrivate(member.getModifiers()) && !member.isSynthetic()) {
            got.add(text);
        }
    }
}
