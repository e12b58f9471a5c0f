import java.lang.reflect.Constructor;
import java.lang.reflect.Field;
import java.lang.reflect.Method;
import java.lang.reflect.Modifier;
import java.util.Arrays;
import java.util.Set;
import java.util.TreeSet;

/** The public face is the document's, with nothing beside it (rule 1 of LANGUAGE.md). */
public final class FaceTests {
    private static final String ARGUMENT = "IllegalArgumentException";
    private static final String STATE = "IllegalStateException";
    private static final String ELEMENT = "NoSuchElementException";

    private static final Set<String> FACE = new TreeSet<>(Arrays.asList(
            "date/2 " + ARGUMENT + " " + STATE,
            "weight/3 " + ELEMENT + " " + ARGUMENT,
            "before/4 " + ELEMENT + " " + ARGUMENT + " " + STATE,
            "member/2 " + ELEMENT,
            "burn/1 " + ARGUMENT,
            "thin/1 " + ARGUMENT,
            "start/0",
            "run/1 " + ARGUMENT + " " + STATE,
            "at/3 " + ELEMENT + " " + STATE,
            "counted/2 " + ELEMENT + " " + STATE,
            "apart/1 " + ELEMENT + " " + STATE,
            "agreement/1 " + ELEMENT + " " + STATE,
            "spans/2 " + ELEMENT + " " + ARGUMENT + " " + STATE,
            "save/0 " + STATE,
            "back/1 " + ELEMENT,
            "count/1 " + ELEMENT));

    private static String signature(Method m) {
        StringBuilder text = new StringBuilder(m.getName()).append('/').append(m.getParameterCount());
        for (Class<?> thrown : m.getExceptionTypes()) {
            text.append(' ').append(thrown.getSimpleName());
        }
        return text.toString();
    }

    private static void methods(Check check) {
        Set<String> found = new TreeSet<>();
        Set<String> hidden = new TreeSet<>();
        Set<String> open = new TreeSet<>();
        for (Method m : SeedChains.class.getDeclaredMethods()) {
            if (Modifier.isPublic(m.getModifiers())) {
                found.add(signature(m));
                open.add(m.getName());
                check.that(m.getName() + " answers an int", m.getReturnType() == int.class);
                check.that(m.getName() + " is no static method", !Modifier.isStatic(m.getModifiers()));
                for (Class<?> parameter : m.getParameterTypes()) {
                    check.that(m.getName() + " takes ints", parameter == int.class);
                }
            } else {
                hidden.add(m.getName());
                check.that(m.getName() + " is private", Modifier.isPrivate(m.getModifiers()));
            }
        }
        check.that("the public methods are the document's: " + found, found.equals(FACE));
        hidden.retainAll(open);
        check.that("no private method bears a public one's name: " + hidden, hidden.isEmpty());
    }

    private static void fields(Check check) {
        for (Field f : SeedChains.class.getDeclaredFields()) {
            boolean isNone = f.getName().equals("NONE");
            check.that(f.getName() + " is seen as it should be",
                    isNone ? Modifier.isPublic(f.getModifiers()) : Modifier.isPrivate(f.getModifiers()));
            check.that(f.getName() + " is final if it is static",
                    !Modifier.isStatic(f.getModifiers()) || Modifier.isFinal(f.getModifiers()));
        }
        check.due("NONE", -1, () -> SeedChains.NONE);
    }

    public static void main(String[] args) {
        Check check = new Check();
        int bits = SeedChains.class.getModifiers();
        check.that("the class is public and final", Modifier.isPublic(bits) && Modifier.isFinal(bits));
        Constructor<?>[] made = SeedChains.class.getDeclaredConstructors();
        check.that("one public constructor of two ints", made.length == 1
                && Modifier.isPublic(made[0].getModifiers())
                && Arrays.equals(made[0].getParameterTypes(), new Class<?>[] {int.class, int.class})
                && made[0].getExceptionTypes().length == 0);
        for (Class<?> inside : SeedChains.class.getDeclaredClasses()) {
            check.that(inside.getName() + " is static and not public",
                    Modifier.isStatic(inside.getModifiers()) && !Modifier.isPublic(inside.getModifiers()));
        }
        methods(check);
        fields(check);
        check.end("FaceTests");
    }
}
