import java.lang.reflect.Constructor;
import java.lang.reflect.Field;
import java.lang.reflect.Method;
import java.lang.reflect.Modifier;
import java.util.ArrayList;
import java.util.List;
import java.util.Set;
import java.util.TreeSet;

/** The public face: all of it, with the exceptions as listed, and nothing else. */
final class FaceTest {
    private static final String[] FACE = {
        "int append(int,int,int,int,int)",
        "int load(int) IllegalArgumentException",
        "int errorOffset()",
        "int count(int) IllegalArgumentException",
        "int stone(int,int) NoSuchElementException IllegalArgumentException",
        "int polygon(int,int) IndexOutOfBoundsException IllegalArgumentException",
        "int cornerAt(int,int) IndexOutOfBoundsException NoSuchElementException",
        "int reason(int,int,int) IndexOutOfBoundsException IllegalArgumentException",
        "int where(int,int,int) IndexOutOfBoundsException IllegalArgumentException IllegalStateException",
        "int area(int) IndexOutOfBoundsException IllegalStateException",
        "int border(int) IndexOutOfBoundsException IllegalStateException",
        "int inner(int) IndexOutOfBoundsException IllegalStateException",
        "int dents(int) IndexOutOfBoundsException IllegalStateException",
        "int parent(int) IndexOutOfBoundsException IllegalStateException",
        "int score(int) IndexOutOfBoundsException IllegalStateException",
        "int points(int) IllegalArgumentException",
        "int leader()",
        "int begin(int,int,int) IllegalArgumentException IllegalStateException",
        "int corner(int,int,int) IndexOutOfBoundsException IllegalArgumentException",
        "int close(int) IndexOutOfBoundsException",
        "int bend(int,int,int,int) IndexOutOfBoundsException NoSuchElementException"
                + " IllegalArgumentException",
        "int takeOut(int,int) IndexOutOfBoundsException NoSuchElementException",
        "int remove(int) IndexOutOfBoundsException",
        "int undo()",
        "long checksum()",
    };
    private static final Set<String> CONSTANTS =
            Set.of("SYNTAX_ERROR", "OUT_OF_RANGE", "REFUSED", "TOO_MANY", "TOO_DEEP");

    public static void main(String[] args) {
        due("the class is public", Modifier.isPublic(CornerClaims.class.getModifiers()));
        due("the class is final", Modifier.isFinal(CornerClaims.class.getModifiers()));
        methods();
        fields();
        Constructor<?>[] constructors = CornerClaims.class.getDeclaredConstructors();
        due("there is one constructor", constructors.length == 1);
        due("it is public and takes nothing", Modifier.isPublic(constructors[0].getModifiers())
                && constructors[0].getParameterCount() == 0);
        for (Class<?> inside : CornerClaims.class.getDeclaredClasses()) {
            int modifiers = inside.getModifiers();
            due(inside + " is static, and private or package-visible", Modifier.isStatic(modifiers)
                    && !Modifier.isPublic(modifiers) && !Modifier.isProtected(modifiers));
            staticFields(inside);
        }
        staticFields(CornerClaims.class);
        Due.end();
    }

    private static void due(String what, boolean holds) {
        Due.answer(what, holds ? 1 : 0, 1);
    }

    private static void methods() {
        Set<String> visible = new TreeSet<>();
        Set<String> names = new TreeSet<>();
        List<String> hidden = new ArrayList<>();
        for (Method method : CornerClaims.class.getDeclaredMethods()) {
            if (Modifier.isPrivate(method.getModifiers())) {
                hidden.add(method.getName());
                continue;
            }
            due(method + " is public", Modifier.isPublic(method.getModifiers()));
            names.add(method.getName());
            visible.add(described(method));
        }
        due("the methods are those of the document: " + visible, visible.equals(Set.of(FACE)));
        for (String name : hidden) {
            due("the private " + name + " has a name of its own", !names.contains(name));
        }
    }

    private static String described(Method method) {
        StringBuilder text = new StringBuilder(method.getReturnType() + " " + method.getName() + "(");
        for (Class<?> parameter : method.getParameterTypes()) {
            text.append(text.charAt(text.length() - 1) == '(' ? "" : ",").append(parameter);
        }
        text.append(")");
        for (Class<?> thrown : method.getExceptionTypes()) {
            text.append(" ").append(thrown.getSimpleName());
        }
        return text.toString();
    }

    private static void fields() {
        Set<String> visible = new TreeSet<>();
        for (Field field : CornerClaims.class.getDeclaredFields()) {
            int modifiers = field.getModifiers();
            if (!Modifier.isPrivate(modifiers)) {
                due(field + " is a public constant", Modifier.isPublic(modifiers)
                        && Modifier.isStatic(modifiers) && Modifier.isFinal(modifiers)
                        && field.getType() == int.class);
                visible.add(field.getName());
            }
        }
        due("the constants are those of the document: " + visible, visible.equals(CONSTANTS));
    }

    private static void staticFields(Class<?> inside) {
        int own = 0;
        for (Field field : inside.getDeclaredFields()) {
            boolean isStatic = Modifier.isStatic(field.getModifiers());
            own += isStatic ? 0 : 1;
            due(field + " is final if it is static", !isStatic || Modifier.isFinal(field.getModifiers()));
        }
        due(inside + " has some twenty fields at most", own <= 20);
    }
}
