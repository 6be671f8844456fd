import java.lang.reflect.Constructor;
import java.lang.reflect.Field;
import java.lang.reflect.Method;
import java.lang.reflect.Modifier;
import java.util.Set;
import java.util.TreeSet;

/** The class has the document's face, and no other member that is not private. */
public final class FaceTest {
    private static final String[] METHODS = {
        "public int LineRules.action(int,int,int,int)"
            + " throws java.util.NoSuchElementException,java.lang.IllegalStateException",
        "public int LineRules.clear()",
        "public int LineRules.count(int) throws java.lang.IllegalArgumentException",
        "public int LineRules.counter(int) throws java.util.NoSuchElementException",
        "public int LineRules.end()",
        "public int LineRules.expression(int) throws java.util.NoSuchElementException,java.lang.IllegalStateException",
        "public int LineRules.feed(int,int,int,int,int) throws java.lang.IllegalStateException",
        "public int LineRules.find(int,int) throws java.util.NoSuchElementException",
        "public int LineRules.forget()",
        "public int LineRules.key(int,int) throws java.util.NoSuchElementException",
        "public int LineRules.line()",
        "public int LineRules.printed(int) throws java.util.NoSuchElementException",
        "public int LineRules.rule(int,int,int)"
            + " throws java.util.NoSuchElementException,java.lang.IllegalStateException",
        "public int LineRules.separator(int) throws java.lang.IllegalArgumentException",
        "public int LineRules.sign(int,int) throws java.util.NoSuchElementException",
        "public int LineRules.text(int) throws java.util.NoSuchElementException",
    };

    public static void main(String[] args) {
        Class<?> face = LineRules.class;
        Check.due("the class", Modifier.toString(face.getModifiers()), "public final");
        Set<String> methods = new TreeSet<>();
        Set<String> publicNames = new TreeSet<>();
        Set<String> privateNames = new TreeSet<>();
        for (Method method : face.getDeclaredMethods()) {
            boolean isPrivate = Modifier.isPrivate(method.getModifiers());
            (isPrivate ? privateNames : publicNames).add(method.getName());
            if (!isPrivate) {
                methods.add(method.toString());
            }
        }
        Check.due("the methods", methods, new TreeSet<>(Set.of(METHODS)));
        privateNames.retainAll(publicNames);
        Check.due("private methods with a public one's name", privateNames, Set.of());
        constructorAndFields(face);
        for (Class<?> inside : face.getDeclaredClasses()) {
            int modifiers = inside.getModifiers();
            Check.due(inside + " is static", Modifier.isStatic(modifiers), true);
            Check.due(inside + " is seen", Modifier.isPublic(modifiers) || Modifier.isProtected(modifiers), false);
        }
        Check.finish();
    }

    private static void constructorAndFields(Class<?> face) {
        Check.due("constructors", face.getDeclaredConstructors().length, 1);
        for (Constructor<?> constructor : face.getDeclaredConstructors()) {
            Check.due("the constructor", constructor.toString(), "public LineRules()");
        }
        for (Field field : face.getDeclaredFields()) {
            boolean isNone = field.toString().equals("public static final int LineRules.NONE");
            Check.due(field + " is hidden", isNone || Modifier.isPrivate(field.getModifiers()), true);
            if (Modifier.isStatic(field.getModifiers())) {
                Check.due(field + " is final", Modifier.isFinal(field.getModifiers()), true);
            }
        }
    }
}
