import java.io.IOException;
import java.lang.reflect.Constructor;
import java.lang.reflect.Field;
import java.lang.reflect.Method;
import java.lang.reflect.Modifier;
import java.nio.file.Files;
import java.nio.file.Path;
import java.util.ArrayList;
import java.util.Arrays;
import java.util.List;
import java.util.TreeSet;
import java.util.regex.Matcher;
import java.util.regex.Pattern;

/** The face is what the document tells, no more, and the file keeps to what LANGUAGE.md lets in. */
public final class FaceTests {
    private static final String FACE =
            "reader(int) readerIs(int,int) become(int,int) as(int,int) marked(int,int) knows(int) jawed(int,int) "
            + "happens(int,int) sign(int,int) feed(long,int) text(int) untell(int) law(int,int,int,int) years(int) "
            + "loose(int) year(int) seed(int) then(int,int) marksThen(int,int) laughs(int,int) alike() "
            + "fits(int,int,int) question(int,int,int) odds(int,int,int,int) voice(int,int,int) body(int) "
            + "sheet(int,int,int) put(int,int,int) move(int,int,int,int,int) markAll(int) judge(int) image() "
            + "restore() tell(int) check() count(int) told(int)";
    private static int wrong = 0;

    private static void due(String what, Object got, Object want) {
        if (!got.equals(want)) {
            wrong++;
            System.out.println(what + ": is " + got + ", due is " + want);
        }
    }

    private static String faceOf(Method method) {
        List<String> types = new ArrayList<>();
        for (Class<?> type : method.getParameterTypes()) {
            types.add(type.getName());
        }
        return method.getName() + "(" + String.join(",", types) + ")";
    }

    private static void face() {
        TreeSet<String> open = new TreeSet<>();
        TreeSet<String> openNames = new TreeSet<>();
        List<Method> closed = new ArrayList<>();
        for (Method method : LionSigns.class.getDeclaredMethods()) {
            if (Modifier.isPrivate(method.getModifiers())) {
                closed.add(method);
            } else {
                open.add(faceOf(method));
                openNames.add(method.getName());
                due(method + " answers", method.getReturnType(), int.class);
                due(method + " is public", method.getModifiers(), Modifier.PUBLIC);
            }
        }
        due("methods", open, new TreeSet<>(Arrays.asList(FACE.split(" "))));
        for (Class<?> inner : LionSigns.class.getDeclaredClasses()) {
            due(inner + " is static", Modifier.isStatic(inner.getModifiers()), true);
            due(inner + " is not public", Modifier.isPublic(inner.getModifiers()), false);
            closed.addAll(Arrays.asList(inner.getDeclaredMethods()));
            due("fields of " + inner, fieldsOf(inner) <= 20, true);
        }
        for (Method method : closed) {
            due(method + " has a name of the face", openNames.contains(method.getName()), false);
            due(method + " has few parameters", method.getParameterCount() <= 7, true);
        }
        due("classes", LionSigns.class.getDeclaredClasses().length <= 12, true);
        due("fields", fieldsOf(LionSigns.class) <= 20, true);
        due("the class", LionSigns.class.getModifiers(), Modifier.PUBLIC | Modifier.FINAL);
        Constructor<?>[] constructors = LionSigns.class.getDeclaredConstructors();
        due("constructors", constructors.length, 1);
        due("the constructor", constructors[0].toString(), "public LionSigns()");
    }

    private static int fieldsOf(Class<?> some) {
        int fields = 0;
        for (Field field : some.getDeclaredFields()) {
            boolean isStatic = Modifier.isStatic(field.getModifiers());
            if (isStatic) {
                due(field + " is final", Modifier.isFinal(field.getModifiers()), true);
            } else {
                fields++;
            }
            if (some == LionSigns.class) {
                due(field + " is private", Modifier.isPrivate(field.getModifiers()), true);
            }
        }
        return fields;
    }

    private static void words() throws IOException {
        String text = Files.readString(Path.of("src/main/java/LionSigns.java"));
        String code = text.replaceAll("(?s)/\\*.*?\\*/|//[^\n]*", "").replaceAll("\"[^\"]*\"|'[^']*'", "0");
        Matcher matcher = Pattern.compile(
                "\\b(throw|throws|try|catch|synchronized|assert|package|toString|hashCode|record|Object|Exception)\\b"
                + "|->|::|Exact\\(|\\bimport (?!java\\.util\\.(Arrays|ArrayList|List|Iterator);)").matcher(code);
        while (matcher.find()) {
            due("a word that LANGUAGE.md rules out", matcher.group(), "");
        }
        for (int i = 0; i < text.length(); i++) {
            due("sign " + i + " of the file is plain", text.charAt(i) < 128, true);
        }
    }

    public static void main(String[] args) throws IOException {
        face();
        words();
        System.out.println(wrong == 0 ? "the face is as due" : wrong + " are not as due");
        if (wrong != 0) {
            System.exit(1);
        }
    }
}
