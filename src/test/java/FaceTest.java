import java.lang.reflect.Constructor;
import java.lang.reflect.Field;
import java.lang.reflect.Method;
import java.lang.reflect.Modifier;
import java.util.Arrays;
import java.util.Set;
import java.util.TreeSet;

/** The class has the document's face and shows nothing else. */
public final class FaceTest {
    private static final String[] FACE = {
        "void reset()", "int table(int,int)", "void clear()", "boolean cell(int,long)",
        "boolean truth(int,boolean)", "boolean text(int,long,int)", "int add(int)",
        "int column(int,int)", "int constant()", "int node(int,int,int)", "int type(int)",
        "boolean where(int)", "int item(int)", "boolean group(int)", "boolean order(int,boolean)",
        "boolean limit(int)", "void distinct(boolean)", "int run()", "int kind(int,int)",
        "long value(int,int)", "int letter(int,int,int)"
    };

    public static void main(String[] args) {
        Check check = new Check("FaceTest");
        int wanted = Modifier.PUBLIC | Modifier.FINAL;
        check.same("the class's modifiers", QueryRunner.class.getModifiers(), wanted);
        Set<String> shown = new TreeSet<>();
        Set<String> names = new TreeSet<>();
        for (Method method : QueryRunner.class.getDeclaredMethods()) {
            if (Modifier.isPrivate(method.getModifiers())) {
                continue;
            }
            check.same("modifiers of " + method, method.getModifiers(), Modifier.PUBLIC);
            shown.add(tell(method));
            names.add(method.getName());
        }
        check.yes("face " + shown, shown.equals(new TreeSet<>(Arrays.asList(FACE))));
        for (Method method : QueryRunner.class.getDeclaredMethods()) {
            boolean hidden = Modifier.isPrivate(method.getModifiers());
            check.no("private method of a public name: " + method, hidden && names.contains(method.getName()));
        }
        for (Field field : QueryRunner.class.getDeclaredFields()) {
            check.yes("private: " + field, Modifier.isPrivate(field.getModifiers()));
        }
        for (Constructor<?> constructor : QueryRunner.class.getDeclaredConstructors()) {
            check.same("constructor " + constructor, constructor.getModifiers(), Modifier.PUBLIC);
            check.same("its parameters", constructor.getParameterCount(), 0);
        }
        for (Class<?> inside : QueryRunner.class.getDeclaredClasses()) {
            int modifiers = inside.getModifiers();
            check.yes("static: " + inside, Modifier.isStatic(modifiers));
            check.no("open: " + inside, Modifier.isPublic(modifiers) || Modifier.isProtected(modifiers));
        }
        check.done();
    }

    private static String tell(Method method) {
        StringBuilder text = new StringBuilder(method.getReturnType().getName());
        text.append(' ').append(method.getName()).append('(');
        Class<?>[] parameters = method.getParameterTypes();
        for (int i = 0; i < parameters.length; i++) {
            text.append(i == 0 ? "" : ",").append(parameters[i].getName());
        }
        return text.append(')').toString();
    }
}
