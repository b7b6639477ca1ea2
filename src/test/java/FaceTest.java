import java.lang.reflect.Constructor;
import java.lang.reflect.Field;
import java.lang.reflect.Method;
import java.lang.reflect.Modifier;
import java.util.TreeSet;

/** The class has the document's face and nothing more that can be seen from outside. */
final class FaceTest {
    static final String[] FACE = {
        "public static final int BAD", "public static final int NONE", "public static final int FULL",
        "public LayerVault()",
        "public int put(int,int,int)", "public int delete(int)", "public int commit()", "public int sync()",
        "public int flush()", "public int merge(int)", "public int collect()", "public int take()",
        "public boolean release(int)", "public int tick(int)", "public int crash(int)",
        "public boolean has(int,int)", "public int get(int,int)", "public int scan(int,int,int)",
        "public int probes()", "public int table(int,int,int)", "public int segment(int,int)",
        "public int look(int)",
    };

    public static void main(String[] args) {
        Due due = new Due();
        due.about("the face");
        due.is("the class", Modifier.toString(LayerVault.class.getModifiers()), "public final");
        due.is("what can be seen", visibleMembers(), String.join("\n", new TreeSet<>(java.util.List.of(FACE))));
        due.is("names used twice", privateMethodsNamedLikePublicOnes(), "");
        due.is("changeable static fields", changeableStatics(), "");
        due.is("BAD", LayerVault.BAD, -1);
        due.is("NONE", LayerVault.NONE, -2);
        due.is("FULL", LayerVault.FULL, -3);
        due.end();
    }

    private static String visibleMembers() {
        TreeSet<String> seen = new TreeSet<>();
        for (Field field : LayerVault.class.getDeclaredFields()) {
            if (!Modifier.isPrivate(field.getModifiers())) {
                seen.add(Modifier.toString(field.getModifiers()) + " " + field.getType() + " " + field.getName());
            }
        }
        for (Constructor<?> constructor : LayerVault.class.getDeclaredConstructors()) {
            if (!Modifier.isPrivate(constructor.getModifiers())) {
                seen.add(withoutOwner(constructor.toString()));
            }
        }
        for (Method method : LayerVault.class.getDeclaredMethods()) {
            if (!Modifier.isPrivate(method.getModifiers())) {
                seen.add(withoutOwner(method.toString()));
            }
        }
        return String.join("\n", seen);
    }

    private static String withoutOwner(String signature) {
        return signature.replace("LayerVault.", "");
    }

    private static String privateMethodsNamedLikePublicOnes() {
        TreeSet<String> open = new TreeSet<>();
        TreeSet<String> hidden = new TreeSet<>();
        for (Method method : LayerVault.class.getDeclaredMethods()) {
            (Modifier.isPublic(method.getModifiers()) ? open : hidden).add(method.getName());
        }
        hidden.retainAll(open);
        return String.join(" ", hidden);
    }

    private static String changeableStatics() {
        TreeSet<String> found = new TreeSet<>();
        for (Class<?> inside : LayerVault.class.getDeclaredClasses()) {
            addChangeableStatics(inside, found);
        }
        addChangeableStatics(LayerVault.class, found);
        return String.join(" ", found);
    }

    private static void addChangeableStatics(Class<?> owner, TreeSet<String> found) {
        for (Field field : owner.getDeclaredFields()) {
            int modifiers = field.getModifiers();
            if (Modifier.isStatic(modifiers) && !Modifier.isFinal(modifiers)) {
                found.add(owner.getName() + "." + field.getName());
            }
        }
    }
}
