import java.lang.reflect.Constructor;
import java.lang.reflect.Field;
import java.lang.reflect.Method;
import java.lang.reflect.Modifier;
import java.util.List;
import java.util.NoSuchElementException;
import java.util.Set;
import java.util.TreeSet;

/** The public face as the document has it, and the rules of LANGUAGE.md that can be seen by reflection. */
public final class FaceTest {
    private static final String FACE = "feed(IIIII)I end(I)Z family()I fault()I person(II)I error(II)I deed(II)I now(I)I act(II)I die(I)I"
        + " give(II)I years(I)I undo()I came(I)I comes(III)I right(I)I loss(II)I heir(I)I line(II)I plan(I)I planned(I)I who(I)I"
        + " worn(I)I wornBy()I wornLoss()I gifts()I gift(I)I together(II)I rests(I)I cancel(II)I under(I)I common(II)I drawn(II)I"
        + " odds(III)I chronicle(I)I told(I)I sentence()I said(I)I image(I)Z restore(I)Z count(I)I";

    public static void main(String[] args) {
        Set<String> due = new TreeSet<>(Set.of(FACE.split(" ")));
        Set<String> got = new TreeSet<>();
        Set<String> names = new TreeSet<>();
        for (Method method : SlipHeirs.class.getDeclaredMethods()) {
            if (!Modifier.isPrivate(method.getModifiers())) {
                got.add(signature(method));
                names.add(method.getName());
            }
        }
        Check.eq("methods", due.size(), 41);
        Check.is("the face is " + got, got.equals(due));
        Check.is("public final", Modifier.isPublic(SlipHeirs.class.getModifiers()) && Modifier.isFinal(SlipHeirs.class.getModifiers()));
        Constructor<?>[] made = SlipHeirs.class.getDeclaredConstructors();
        Check.is("one constructor", made.length == 1 && Modifier.isPublic(made[0].getModifiers()) && made[0].getParameterCount() == 0);
        for (Field field : SlipHeirs.class.getDeclaredFields()) {
            Check.is("field " + field, Modifier.isPrivate(field.getModifiers()) || field.getName().equals("NONE"));
            Check.is("static field " + field, !Modifier.isStatic(field.getModifiers()) || Modifier.isFinal(field.getModifiers()));
        }
        for (Method method : SlipHeirs.class.getDeclaredMethods()) {
            Check.is("private " + method, !Modifier.isPrivate(method.getModifiers()) || !names.contains(method.getName()));
        }
        Check.eq("NONE", SlipHeirs.NONE, -1);
        toldExceptions();
        insideClasses(names);
        Check.close("FaceTest");
    }

    /** person() and loss() alone say what they throw, as in the document. */
    private static void toldExceptions() {
        for (Method method : SlipHeirs.class.getDeclaredMethods()) {
            boolean throwing = method.getName().equals("person") || method.getName().equals("loss");
            List<Class<?>> due = throwing ? List.of(NoSuchElementException.class) : List.of();
            Check.is("what " + method + " throws", List.of(method.getExceptionTypes()).equals(due));
        }
    }

    private static void insideClasses(Set<String> names) {
        Class<?>[] inside = SlipHeirs.class.getDeclaredClasses();
        Check.is("at most twelve classes", inside.length + 1 <= 12);
        for (Class<?> one : inside) {
            int modifiers = one.getModifiers();
            Check.is("static " + one, Modifier.isStatic(modifiers) && !Modifier.isPublic(modifiers) && !Modifier.isProtected(modifiers));
            int fields = 0;
            for (Field field : one.getDeclaredFields()) {
                fields += Modifier.isStatic(field.getModifiers()) ? 0 : 1;
            }
            Check.is("fields of " + one, fields <= 20);
            for (Method method : one.getDeclaredMethods()) {
                Check.isNot("a name of the face in " + one + ": " + method.getName(), names.contains(method.getName()));
                Check.is("parameters of " + method, method.getParameterCount() <= 7);
            }
        }
    }

    private static String signature(Method method) {
        StringBuilder text = new StringBuilder(method.getName()).append('(');
        for (Class<?> type : method.getParameterTypes()) {
            text.append(type.descriptorString());
        }
        return text.append(')').append(method.getReturnType().descriptorString()).toString();
    }
}
