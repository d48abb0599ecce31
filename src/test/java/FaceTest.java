import java.lang.reflect.Constructor;
import java.lang.reflect.Field;
import java.lang.reflect.Member;
import java.lang.reflect.Method;
import java.lang.reflect.Modifier;
import java.util.Set;
import java.util.TreeSet;

/** The class has the document's face, and shows nothing else. */
public final class FaceTest {
    private static final Set<String> FACE = Set.of(
            "public static final int NONE",
            "public RungTouches()",
            "public boolean bells(int)",
            "public boolean notation(int,int)",
            "public boolean callNotation(int,int)",
            "public int define(int)",
            "public int call(int) throws IllegalStateException,IllegalArgumentException,UnsupportedOperationException",
            "public boolean change(int,int)",
            "public boolean keep(int)",
            "public int calls()",
            "public int callAt(int)",
            "public int prove()",
            "public int rows()",
            "public int bell(int,int)",
            "public int rank(int)",
            "public int unrank(int,int)",
            "public int course() throws IllegalStateException",
            "public boolean falseLeads(int,int) throws IllegalStateException,IllegalArgumentException",
            "public int search(int,int,int) throws IllegalStateException,IllegalArgumentException",
            "public int count(int,int) throws IllegalStateException,IllegalArgumentException",
            "public int looked()",
            "public boolean pattern(int,int,int)",
            "public int music(int)");

    public static void main(String[] args) {
        Check check = new Check("FaceTest");
        check.same("the class", Modifier.toString(RungTouches.class.getModifiers()), "public final");
        check.same("the face", new TreeSet<>(shownMembers()), new TreeSet<>(FACE));
        check.same("private methods named as public ones", namesBothPublicAndPrivate(), Set.of());
        check.same("static fields that are not final", changingStatics(), Set.of());
        check.same("NONE", RungTouches.NONE, -1);
        check.done();
    }

    private static Set<String> shownMembers() {
        Set<String> shown = new TreeSet<>();
        for (Field field : RungTouches.class.getDeclaredFields()) {
            addIfShown(shown, field, field.toGenericString());
        }
        for (Constructor<?> constructor : RungTouches.class.getDeclaredConstructors()) {
            addIfShown(shown, constructor, constructor.toGenericString());
        }
        for (Method method : RungTouches.class.getDeclaredMethods()) {
            addIfShown(shown, method, method.toGenericString());
        }
        return shown;
    }

    private static void addIfShown(Set<String> shown, Member member, String text) {
        if (!Modifier.isPrivate(member.getModifiers())) {
            shown.add(text.replace("RungTouches.", "").replace("java.lang.", ""));
        }
    }

    private static Set<String> namesBothPublicAndPrivate() {
        Set<String> open = new TreeSet<>();
        Set<String> hidden = new TreeSet<>();
        for (Method method : RungTouches.class.getDeclaredMethods()) {
            (Modifier.isPublic(method.getModifiers()) ? open : hidden).add(method.getName());
        }
        open.retainAll(hidden);
        return open;
    }

    private static Set<String> changingStatics() {
        Set<String> changing = new TreeSet<>();
        addChangingStatics(changing, RungTouches.class);
        for (Class<?> inside : RungTouches.class.getDeclaredClasses()) {
            addChangingStatics(changing, inside);
        }
        return changing;
    }

    private static void addChangingStatics(Set<String> changing, Class<?> owner) {
        for (Field field : owner.getDeclaredFields()) {
            int modifiers = field.getModifiers();
            if (Modifier.isStatic(modifiers) && !Modifier.isFinal(modifiers)) {
                changing.add(field.toString());
            }
        }
    }
}
