import java.lang.reflect.Constructor;
import java.lang.reflect.Field;
import java.lang.reflect.Method;
import java.lang.reflect.Modifier;
import java.util.Arrays;
import java.util.TreeSet;

/** The public face, as the document writes it, and no other member that is not private. */
public final class FaceTest {
    private static final Check check = new Check();

    public static void main(String[] args) {
        TreeSet<String> due = new TreeSet<>(Arrays.asList(
            "public static final int BulkSamples.UNKNOWN",
            "public static final int BulkSamples.OUTSIDE",
            "public static final int BulkSamples.STATE",
            "public static final int BulkSamples.ROOM",
            "public BulkSamples()",
            "public int BulkSamples.mailing(int)",
            "public int BulkSamples.depth(int,int,int)",
            "public void BulkSamples.tape(int)",
            "public int BulkSamples.sample(int,int)",
            "public int BulkSamples.wrong(int,int,int)",
            "public int BulkSamples.verdict(int)",
            "public long BulkSamples.chance(int,int,int,int,int)",
            "public long BulkSamples.share(int,int) throws java.lang.ArithmeticException",
            "public double BulkSamples.shown(int)",
            "public int BulkSamples.plan(int,int)",
            "public long BulkSamples.surcharge(int)",
            "public boolean BulkSamples.bound(int)"));
        TreeSet<String> got = new TreeSet<>();
        TreeSet<String> publicNames = new TreeSet<>();
        TreeSet<String> privateNames = new TreeSet<>();
        for (Field f : BulkSamples.class.getDeclaredFields()) {
            if (!Modifier.isPrivate(f.getModifiers())) {
                got.add(f.toString());
            }
        }
        for (Constructor<?> c : BulkSamples.class.getDeclaredConstructors()) {
            got.add(c.toString());
        }
        for (Method m : BulkSamples.class.getDeclaredMethods()) {
            if (Modifier.isPrivate(m.getModifiers())) {
                privateNames.add(m.getName());
            } else {
                got.add(m.toString());
                publicNames.add(m.getName());
            }
        }
        check.holds("the face is " + due + ", not " + got, got.equals(due));
        privateNames.retainAll(publicNames);
        check.holds("no private method bears a public name: " + privateNames, privateNames.isEmpty());
        check.same("modifiers", BulkSamples.class.getModifiers(), Modifier.PUBLIC | Modifier.FINAL);
        check.same("UNKNOWN", BulkSamples.UNKNOWN, -11);
        check.same("OUTSIDE", BulkSamples.OUTSIDE, -12);
        check.same("STATE", BulkSamples.STATE, -13);
        check.same("ROOM", BulkSamples.ROOM, -14);
        check.end();
    }
}
