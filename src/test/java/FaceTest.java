import java.lang.reflect.Constructor;
import java.lang.reflect.Field;
import java.lang.reflect.Method;
import java.lang.reflect.Modifier;
import java.util.ArrayList;
import java.util.Arrays;
import java.util.List;

/** The document's public face, and rule 1 of the language: no other member is to be seen. */
final class FaceTest {
    private static final List<String> DUE = Arrays.asList(
        "public PacketForge()",
        "public static final int PacketForge.NONE",
        "public boolean PacketForge.type(long,int)",
        "public boolean PacketForge.cut(int)",
        "public int PacketForge.compile()",
        "public int PacketForge.length(boolean) throws java.lang.IllegalStateException",
        "public int PacketForge.width(int) throws java.lang.IllegalStateException,"
            + "java.lang.IndexOutOfBoundsException",
        "public boolean PacketForge.put(long,int)",
        "public boolean PacketForge.drop(int)",
        "public int PacketForge.size()",
        "public int PacketForge.byteAt(int) throws java.lang.IndexOutOfBoundsException",
        "public void PacketForge.flip(int) throws java.lang.IndexOutOfBoundsException",
        "public int PacketForge.read() throws java.lang.IllegalStateException",
        "public int PacketForge.write() throws java.lang.IllegalStateException",
        "public int PacketForge.values()",
        "public int PacketForge.value(int) throws java.lang.IndexOutOfBoundsException",
        "public int PacketForge.name(int) throws java.lang.IndexOutOfBoundsException",
        "public void PacketForge.add(int) throws java.lang.IllegalArgumentException,"
            + "java.lang.UnsupportedOperationException",
        "public void PacketForge.set(int,int) throws java.lang.IndexOutOfBoundsException,"
            + "java.lang.IllegalArgumentException",
        "public boolean PacketForge.keep(int)");

    public static void main(String[] args) {
        List<String> seen = new ArrayList<>();
        for (Constructor<?> c : PacketForge.class.getDeclaredConstructors()) {
            note(seen, c.getModifiers(), c.toGenericString());
        }
        for (Field f : PacketForge.class.getDeclaredFields()) {
            note(seen, f.getModifiers(), f.toGenericString());
        }
        for (Method m : PacketForge.class.getDeclaredMethods()) {
            note(seen, m.getModifiers(), m.toGenericString());
        }
        for (String member : DUE) {
            Checks.yes("the face has " + member, seen.contains(member));
        }
        for (String member : seen) {
            Checks.yes("the document has " + member, DUE.contains(member));
        }
        Checks.yes("public and final", Modifier.isFinal(PacketForge.class.getModifiers())
            && Modifier.isPublic(PacketForge.class.getModifiers()));
        noPrivateMethodHasAFaceName();
        Checks.same("NONE", PacketForge.NONE, -1);
        Checks.end();
    }

    private static void note(List<String> seen, int modifiers, String member) {
        if (!Modifier.isPrivate(modifiers)) {
            seen.add(member);
        }
    }

    private static void noPrivateMethodHasAFaceName() {
        List<Class<?>> all = new ArrayList<>(List.of(PacketForge.class.getDeclaredClasses()));
        all.add(PacketForge.class);
        for (Class<?> c : all) {
            for (Method m : c.getDeclaredMethods()) {
                boolean ofTheFace = c == PacketForge.class && Modifier.isPublic(m.getModifiers());
                boolean sameName = DUE.stream().anyMatch(d -> d.contains("." + m.getName() + "("));
                Checks.no(m + " bears a name of the face", sameName && !ofTheFace);
            }
        }
    }
}
