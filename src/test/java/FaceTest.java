import java.lang.reflect.Constructor;
import java.lang.reflect.Field;
import java.lang.reflect.Method;
import java.lang.reflect.Modifier;
import java.util.Set;
import java.util.TreeSet;

/** The public face, and LANGUAGE.md's rules 1 and 5 as far as reflection shows them. */
public final class FaceTest {
    private static final Set<String> FACE = Set.of(
            "int feed(int,int,int,int,int)", "boolean end(int)", "int statutes()", "int fault()",
            "boolean road(int,int,int)", "boolean snow(int,int,int)", "int fodder(int,int)", "int horse(int,int)",
            "int tablet(int)", "int ride(int,int,int)", "boolean cancel(int,int)", "boolean kill(int)", "int next()",
            "int rider(int,int) NoSuchElementException", "int way(int,int)",
            "int steed(int,int) NoSuchElementException", "int at(int,int)", "int voided(int,int)",
            "int known(int,int)", "int hours(int,int)", "int leading()", "int count(int)");

    public static void main(String[] args) {
        Class<YamRiders> type = YamRiders.class;
        Check.yes("public", Modifier.isPublic(type.getModifiers()));
        Check.yes("final", Modifier.isFinal(type.getModifiers()));
        Constructor<?>[] made = type.getDeclaredConstructors();
        Check.due("constructors", made.length, 1);
        Check.yes("public constructor", Modifier.isPublic(made[0].getModifiers()));
        Check.due("its parameters", made[0].getParameterCount(), 0);
        methodsAreTheFace(type);
        fieldsAreHidden(type);
        for (Class<?> inside : type.getDeclaredClasses()) {
            Check.yes(inside + " static", Modifier.isStatic(inside.getModifiers()));
            Check.no(inside + " public", Modifier.isPublic(inside.getModifiers()));
            staticFieldsAreFinal(inside);
        }
        Check.due("NONE", YamRiders.NONE, -1);
        Check.finish();
    }

    private static void methodsAreTheFace(Class<?> type) {
        Set<String> names = new TreeSet<>();
        Set<String> found = new TreeSet<>();
        for (Method method : type.getDeclaredMethods()) {
            if (Modifier.isPublic(method.getModifiers())) {
                found.add(told(method));
                names.add(method.getName());
            } else {
                Check.yes(method + " private", Modifier.isPrivate(method.getModifiers()));
            }
        }
        Check.yes("the face " + found, found.equals(FACE));
        for (Method method : type.getDeclaredMethods()) {
            Check.no(method + " bears a public one's name",
                    Modifier.isPrivate(method.getModifiers()) && names.contains(method.getName()));
        }
    }

    private static String told(Method method) {
        StringBuilder text = new StringBuilder();
        text.append(method.getReturnType().getSimpleName()).append(' ').append(method.getName()).append('(');
        for (int i = 0; i < method.getParameterCount(); i++) {
            text.append(i == 0 ? "" : ",").append(method.getParameterTypes()[i].getSimpleName());
        }
        text.append(')');
        for (Class<?> thrown : method.getExceptionTypes()) {
            text.append(' ').append(thrown.getSimpleName());
        }
        return text.toString();
    }

    private static void fieldsAreHidden(Class<?> type) {
        staticFieldsAreFinal(type);
        for (Field field : type.getDeclaredFields()) {
            boolean isNone = field.getName().equals("NONE");
            int want = isNone ? Modifier.PUBLIC | Modifier.STATIC | Modifier.FINAL : Modifier.PRIVATE;
            Check.due(field + "", field.getModifiers() & (want | Modifier.PUBLIC | Modifier.PROTECTED), want);
        }
    }

    private static void staticFieldsAreFinal(Class<?> type) {
        for (Field field : type.getDeclaredFields()) {
            int modifiers = field.getModifiers();
            Check.yes(field + " final", !Modifier.isStatic(modifiers) || Modifier.isFinal(modifiers));
        }
    }
}
