import java.lang.reflect.Constructor;
import java.lang.reflect.Field;
import java.lang.reflect.Method;
import java.lang.reflect.Modifier;
import java.util.Set;
import java.util.TreeSet;

/** The public face: each member of the document, and no other that can be seen from outside. */
public final class FaceTest {
    private static final Set<String> METHODS = Set.of(
        "public int TokenCircuit.feed(int,int,int,int,int)",
        "public int TokenCircuit.build(int)",
        "public int TokenCircuit.fault(int)",
        "public int TokenCircuit.give(int,int) throws java.util.NoSuchElementException",
        "public int TokenCircuit.poke(int,int,int) throws java.util.NoSuchElementException",
        "public int TokenCircuit.cell(int,int) throws java.util.NoSuchElementException",
        "public int TokenCircuit.latency(int)",
        "public int TokenCircuit.free()",
        "public long TokenCircuit.stall(long)",
        "public int TokenCircuit.run(int)",
        "public int TokenCircuit.told(int)",
        "public int TokenCircuit.write(int,int) throws java.util.NoSuchElementException",
        "public int TokenCircuit.count(int)",
        "public int TokenCircuit.size(int)");

    private FaceTest() {
    }

    public static void main(String[] args) {
        Class<?> face = TokenCircuit.class;
        Due.is("the class is public and final", face.getModifiers(), Modifier.PUBLIC | Modifier.FINAL);
        Due.holds("no class above it but Object", face.getSuperclass() == Object.class && face.getInterfaces().length == 0);
        Set<String> seen = new TreeSet<>();
        Set<String> names = new TreeSet<>();
        for (Method method : face.getDeclaredMethods()) {
            if (!Modifier.isPrivate(method.getModifiers())) {
                seen.add(method.toString());
                names.add(method.getName());
            }
        }
        Due.holds("the methods: " + seen, seen.equals(METHODS));
        for (Constructor<?> constructor : face.getDeclaredConstructors()) {
            Due.holds("the constructor: " + constructor, constructor.toString().equals("public TokenCircuit()"));
        }
        for (Field field : face.getDeclaredFields()) {
            boolean isNone = field.toString().equals("public static final int TokenCircuit.NONE");
            Due.holds("the field " + field, isNone || Modifier.isPrivate(field.getModifiers()));
            Due.holds("static is final: " + field,
                !Modifier.isStatic(field.getModifiers()) || Modifier.isFinal(field.getModifiers()));
        }
        inside(face, names);
        Due.end();
    }

    private static void inside(Class<?> face, Set<String> names) {
        Due.holds("some twelve classes", face.getDeclaredClasses().length <= 12);
        for (Class<?> inner : face.getDeclaredClasses()) {
            int modifiers = inner.getModifiers();
            Due.holds(inner + " is static", Modifier.isStatic(modifiers));
            Due.holds(inner + " can't be seen", !Modifier.isPublic(modifiers) && !Modifier.isProtected(modifiers));
            for (Method method : inner.getDeclaredMethods()) {
                Due.holds(method + " bears no name of the face", !names.contains(method.getName()));
                Due.holds(method + " takes at most seven", method.getParameterCount() <= 7);
            }
            int fields = 0;
            for (Field field : inner.getDeclaredFields()) {
                fields += Modifier.isStatic(field.getModifiers()) ? 0 : 1;
            }
            Due.holds(inner + " has at most twenty fields", fields <= 20);
        }
    }
}
