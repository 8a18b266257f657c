import java.lang.reflect.Constructor;
import java.lang.reflect.Field;
import java.lang.reflect.Method;
import java.lang.reflect.Modifier;
import java.util.HashSet;
import java.util.Set;

/** The public face is the document's, whole, and nothing else can be seen from outside. */
public final class FaceTest {
    private static final Set<String> METHODS = Set.of(
            "int heap()", "int add(int,int)", "long least(int)", "long take(int)", "int meld(int,int)",
            "int size(int)", "long key(int,int)", "long sum(int)", "int free()", "boolean few()");

    public static void main(String[] args) {
        int kind = SkewMelds.class.getModifiers();
        Due.holds("the class is public and final", Modifier.isPublic(kind) && Modifier.isFinal(kind));
        constructors();
        methods();
        fields();
        Due.end();
    }

    private static void constructors() {
        Constructor<?>[] all = SkewMelds.class.getDeclaredConstructors();
        Due.is("constructors", all.length, 1);
        Due.holds("it is public and takes nothing",
                Modifier.isPublic(all[0].getModifiers()) && all[0].getParameterCount() == 0);
    }

    private static String written(Method method) {
        StringBuilder text = new StringBuilder();
        text.append(method.getReturnType().getName()).append(' ').append(method.getName()).append('(');
        for (Class<?> type : method.getParameterTypes()) {
            text.append(text.charAt(text.length() - 1) == '(' ? "" : ",").append(type.getName());
        }
        return text.append(')').toString();
    }

    private static void methods() {
        Set<String> seen = new HashSet<>();
        Set<String> publicNames = new HashSet<>();
        for (String method : METHODS) {
            publicNames.add(method.substring(method.indexOf(' ') + 1, method.indexOf('(')));
        }
        for (Method method : SkewMelds.class.getDeclaredMethods()) {
            if (Modifier.isPublic(method.getModifiers())) {
                seen.add(written(method));
                Due.holds(method + " is of the object", !Modifier.isStatic(method.getModifiers()));
            } else {
                Due.holds(method + " is private", Modifier.isPrivate(method.getModifiers()));
                Due.holds(method + " has a name of its own", !publicNames.contains(method.getName()));
            }
        }
        Due.holds("the public methods are the document's: " + seen, seen.equals(METHODS));
    }

    private static void fields() {
        for (Field field : SkewMelds.class.getDeclaredFields()) {
            int kind = field.getModifiers();
            Due.holds(field + " is private, or NONE", Modifier.isPrivate(kind)
                    || field.toString().equals("public static final int SkewMelds.NONE"));
            Due.holds(field + " is final if it is static", !Modifier.isStatic(kind) || Modifier.isFinal(kind));
        }
        Due.is("NONE", SkewMelds.NONE, -1);
    }
}
