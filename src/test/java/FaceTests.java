import java.lang.reflect.Constructor;
import java.lang.reflect.Field;
import java.lang.reflect.Method;
import java.lang.reflect.Modifier;
import java.util.ArrayList;
import java.util.Arrays;
import java.util.List;
import java.util.TreeSet;

/** The face is what the document tells, no more (rule 1 of LANGUAGE.md). */
public final class FaceTests {
    private static final String FACE =
            "reader(int) readerIs(int,int) become(int,int) as(int,int) marked(int,int) knows(int) jawed(int,int) "
            + "happens(int,int) sign(int,int) feed(long,int) text(int) untell(int) law(int,int,int,int) years(int) "
            + "loose(int) year(int) seed(int) then(int,int) marksThen(int,int) laughs(int,int) alike() "
            + "fits(int,int,int) question(int,int,int) odds(int,int,int,int) voice(int,int,int) body(int) "
            + "sheet(int,int,int) put(int,int,int) move(int,int,int,int,int) markAll(int) judge(int) image() "
            + "restore() tell(int) check() count(int) told(int)";
    private static int wrong = 0;

    private static void due(String what, Object got, Object want) {
        if (!got.equals(want)) {
            wrong++;
            System.out.println(what + ": is " + got + ", due is " + want);
        }
    }

    private static String faceOf(Method method) {
        List<String> types = new ArrayList<>();
        for (Class<?> type : method.getParameterTypes()) {
            types.add(type.getName());
        }
        return method.getName() + "(" + String.join(",", types) + ")";
    }

    private static void face() {
        TreeSet<String> open = new TreeSet<>();
        TreeSet<String> openNames = new TreeSet<>();
        List<Method> closed = new ArrayList<>();
        for (Method method : LionSigns.class.getDeclaredMethods()) {
            if (Modifier.isPrivate(method.getModifiers())) {
                closed.add(method);
            } else {
                open.add(faceOf(method));
                openNames.add(method.getName());
                due(method + " answers", method.getReturnType(), int.class);
                due(method + " is public", method.getModifiers(), Modifier.PUBLIC);
            }
        }
        due("methods", open, new TreeSet<>(Arrays.asList(FACE.split(" "))));
        for (Class<?> inner : LionSigns.class.getDeclaredClasses()) {
            due(inner + " is static", Modifier.isStatic(inner.getModifiers()), true);
            due(inner + " is not public", Modifier.isPublic(inner.getModifiers()), false);
            closed.addAll(Arrays.asList(inner.getDeclaredMethods()));
        }
        for (Method method : closed) {
            due(method + " has a name of the face", openNames.contains(method.getName()), false);
        }
        for (Field field : LionSigns.class.getDeclaredFields()) {
            due(field + " is private", Modifier.isPrivate(field.getModifiers()), true);
        }
        due("the class", LionSigns.class.getModifiers(), Modifier.PUBLIC | Modifier.FINAL);
        Constructor<?>[] constructors = LionSigns.class.getDeclaredConstructors();
        due("constructors", constructors.length, 1);
        due("the constructor", constructors[0].toString(), "public LionSigns()");
    }

    public static void main(String[] args) {
        face();
        System.out.println(wrong == 0 ? "the face is as due" : wrong + " are not as due");
        if (wrong != 0) {
            System.exit(1);
        }
    }
}
