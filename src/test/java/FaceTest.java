import java.lang.reflect.Constructor;
import java.lang.reflect.Field;
import java.lang.reflect.Method;
import java.lang.reflect.Modifier;
import java.util.Arrays;
import java.util.HashSet;
import java.util.Set;
import java.util.TreeSet;

/** The public face: just these members, and no others that can be seen from outside. */
public final class FaceTest {
    private static final String[] FACE = {
        "int fleet(int)", "int ship(int,int)", "int man(int,int)", "int commands(int,int)",
        "int meet(int,int)", "int where(int,int)", "int can(int,int)", "int soonest(int,int,int)",
        "long likely(int,int,int,int)", "int fewest(int,int,int)", "int crews(int)",
        "int sailed(int)", "int never()", "int mixed()", "int mixesMost()", "int lacks(int)",
        "int letter(int,int)", "int law(int,int,int,int)", "int together(int,int,int)",
        "int moved(int,int)", "int seeded(int,int,int)", "int judge(int)",
        "int image()", "int restore()", "int count(int)",
        "int keep(int,int,int,int)", "int row(int,int,int)", "int put(int,int,int)",
        "long element(int,int)", "int copy(int,int,int,int,int)", "int pay(int)", "int toss(int)",
    };

    public static void main(String[] args) {
        Check check = new Check("FaceTest");
        Class<?> type = ShipsThatMeet.class;
        check.holds("public final", Modifier.isPublic(type.getModifiers()) && Modifier.isFinal(type.getModifiers()));
        Set<String> seen = new TreeSet<>();
        Set<String> names = new HashSet<>();
        for (Method method : type.getDeclaredMethods()) {
            if (!Modifier.isPrivate(method.getModifiers())) {
                seen.add(described(method));
                names.add(method.getName());
                check.holds(method + " is public and no more", method.getModifiers() == Modifier.PUBLIC);
            }
        }
        check.holds("methods are the document's: " + seen, seen.equals(new TreeSet<>(Arrays.asList(FACE))));
        for (Method method : type.getDeclaredMethods()) {
            if (Modifier.isPrivate(method.getModifiers())) {
                check.holds("no private method is called " + method.getName(), !names.contains(method.getName()));
            }
        }
        for (Field field : type.getDeclaredFields()) {
            int modifiers = field.getModifiers();
            check.holds(field + " is private", Modifier.isPrivate(modifiers));
            check.holds(field + " is no changing static", !Modifier.isStatic(modifiers) || Modifier.isFinal(modifiers));
        }
        Constructor<?>[] constructors = type.getDeclaredConstructors();
        check.due("constructors", constructors.length, 1);
        check.due("the constructor's parameters", constructors[0].getParameterCount(), 0);
        check.holds("the constructor is public", Modifier.isPublic(constructors[0].getModifiers()));
        inside(check, type, names);
        check.end();
    }

    private static void inside(Check check, Class<?> type, Set<String> names) {
        check.holds("some twelve classes", type.getDeclaredClasses().length <= 11);
        for (Class<?> inner : type.getDeclaredClasses()) {
            int modifiers = inner.getModifiers();
            check.holds(inner + " is static", Modifier.isStatic(modifiers));
            check.holds(inner + " is hidden", !Modifier.isPublic(modifiers) && !Modifier.isProtected(modifiers));
            for (Method method : inner.getDeclaredMethods()) {
                check.holds(method + " bears no public name", !names.contains(method.getName()));
            }
        }
    }

    private static String described(Method method) {
        StringBuilder text = new StringBuilder(method.getReturnType().getName() + " " + method.getName() + "(");
        for (Class<?> parameter : method.getParameterTypes()) {
            text.append(text.charAt(text.length() - 1) == '(' ? "" : ",").append(parameter.getName());
        }
        return text.append(")").toString();
    }
}
