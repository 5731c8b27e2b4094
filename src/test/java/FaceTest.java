import java.lang.reflect.Constructor;
import java.lang.reflect.Field;
import java.lang.reflect.Method;
import java.lang.reflect.Modifier;
import java.util.Set;
import java.util.TreeSet;

/** The class's face is the document's and no more; rule 1 of LANGUAGE.md. */
public final class FaceTest {
    private static final Set<String> DUE = Set.of(
            "public static final int TransformProduct.NONE",
            "public TransformProduct(int)",
            "public boolean TransformProduct.init()",
            "public void TransformProduct.clear()",
            "public boolean TransformProduct.feedA(int)",
            "public boolean TransformProduct.feedB(int)",
            "public boolean TransformProduct.repeat(int,int,int)",
            "public boolean TransformProduct.multiply()",
            "public boolean TransformProduct.square()",
            "public int TransformProduct.length()",
            "public int TransformProduct.digit(int)",
            "public int TransformProduct.butterflies()",
            "public int TransformProduct.spectrum(int,int,int)",
            "public boolean TransformProduct.take(int)",
            "public boolean TransformProduct.give(int)",
            "public int TransformProduct.compare()",
            "public int TransformProduct.rest(int)");

    public static void main(String[] args) {
        Check check = new Check();
        Set<String> seen = new TreeSet<>();
        for (Field field : TransformProduct.class.getDeclaredFields()) {
            addOpen(seen, field.getModifiers(), field.isSynthetic(), field.toGenericString());
        }
        for (Constructor<?> maker : TransformProduct.class.getDeclaredConstructors()) {
            addOpen(seen, maker.getModifiers(), maker.isSynthetic(), maker.toGenericString());
        }
        for (Method method : TransformProduct.class.getDeclaredMethods()) {
            addOpen(seen, method.getModifiers(), method.isSynthetic(), method.toGenericString());
        }
        for (String member : seen) {
            check.yes("in the document: " + member, DUE.contains(member));
        }
        for (String member : DUE) {
            check.yes("in the class: " + member, seen.contains(member));
        }
        int modifiers = TransformProduct.class.getModifiers();
        check.yes("public final", Modifier.isPublic(modifiers) && Modifier.isFinal(modifiers));
        check.same("NONE", TransformProduct.NONE, -1);
        classesInside(check);
        namesOfPrivateMethods(check);
        check.ended();
    }

    /** "the classes inside it, which are private or package-visible and static". */
    private static void classesInside(Check check) {
        for (Class<?> inside : TransformProduct.class.getDeclaredClasses()) {
            int modifiers = inside.getModifiers();
            check.no("open: " + inside, Modifier.isPublic(modifiers) || Modifier.isProtected(modifiers));
            check.yes("static: " + inside, Modifier.isStatic(modifiers));
        }
    }

    /** "No private method bears the name of a public one." */
    private static void namesOfPrivateMethods(Check check) {
        for (Method method : TransformProduct.class.getDeclaredMethods()) {
            boolean open = DUE.stream().anyMatch(due -> due.contains("." + method.getName() + "("));
            check.same("public: " + method, Modifier.isPublic(method.getModifiers()) ? 1 : 0, open ? 1 : 0);
        }
    }

    private static void addOpen(Set<String> seen, int modifiers, boolean synthetic, String text) {
        if (!Modifier.isPrivate(modifiers) && !synthetic) {
            seen.add(text);
        }
    }
}
