import java.lang.reflect.InvocationTargetException;
import java.lang.reflect.Method;
import java.lang.reflect.Modifier;
import java.util.ArrayList;
import java.util.Arrays;
import java.util.Comparator;
import java.util.List;

/**
 * No call throws, for any arguments in any state (rule 7 of LANGUAGE.md): each call of the face, with every choice of
 * some least, greatest and edging numbers, on objects that come from many states and go on far beyond 512 calls.
 */
public final class WildTests {
    private static final int[] MANY = {Integer.MIN_VALUE, Integer.MIN_VALUE + 1, -1000000001, -2, -1, 0, 1, 2, 3, 4, 5, 6,
        7, 8, 9, 10, 16, 20, 21, 24, 25, 30, 31, 32, 59, 60, 61, 65, 66, 69, 70, 255, 256, 359, 360, 9998, 9999, 10000,
        Integer.MAX_VALUE - 1, Integer.MAX_VALUE};
    private static final int[] FEW = {Integer.MIN_VALUE, -1, 0, 1, 3, 6, 20, 24, 25, 66, 9999, Integer.MAX_VALUE};
    private static final String[] TEXTS = {"", "b", "9999*9999*9999*9999/(0-1)%(y-3)", "!!!!!b", "((((((b", "e/0+j%0",
        "b|e&y<1>2", "1+1+1+1+1+1+1+1+1+1+1+1+1+1+1+1+1+1+1+1+1+1+1+1+1+1+1+1+1+1", "r*0-9999", "((((1+b))))-j"};
    private static int wrong = 0;

    private static final class Wild {
        final LionSigns x = new LionSigns();
        long calls;

        void ask(Method method, Object[] all) {
            calls++;
            try {
                method.invoke(x, all);
            } catch (InvocationTargetException thrown) {
                wrong++;
                System.out.println(method.getName() + Arrays.toString(all) + " has thrown " + thrown.getCause()
                        + ", as call " + calls);
            } catch (IllegalAccessException closed) {
                throw new IllegalStateException(closed);
            }
        }

        /** A call with every choice of numbers for its places from one on. */
        void sweep(Method method, Object[] all, int place) {
            if (wrong > 9) {
                return;
            }
            if (place == all.length) {
                ask(method, all);
                return;
            }
            boolean isLong = method.getParameterTypes()[place] == long.class;
            for (int v : all.length > 3 ? FEW : MANY) {
                all[place] = isLong ? (Object) (v * 0x0101010101010101L) : (Object) v;
                sweep(method, all, place + 1);
            }
        }

        void write(String text) {
            for (int i = 0; i < text.length(); i++) {
                x.feed(text.charAt(i), 1);
            }
        }

        /** A state to begin in; each number another one. */
        void begin(int state) {
            for (int i = 0; i < state % 7; i++) {
                x.reader((state * 11 + i * 13) % 70);
                x.marked(i, state % 2 == 0 ? 9999 : i);
            }
            for (int use = 0; use < 2; use++) {
                write(TEXTS[(state + use) % TEXTS.length]);
                x.text(use);
            }
            for (int sheet = 0; sheet < state % 5; sheet++) {
                x.sheet(sheet, 8 << state % 3, 24 - state % 3 * 12);
            }
            for (int i = 0; i < state * 3; i++) {
                x.tell(i);
            }
            write(TEXTS[state % TEXTS.length]);
            x.knows(state * 21 % 256);
            x.year(state % 3 == 0 ? 9999 : state);
            if (state % 2 == 1) {
                x.image();
            }
        }
    }

    private static List<Method> face() {
        List<Method> face = new ArrayList<>();
        for (Method method : LionSigns.class.getDeclaredMethods()) {
            if (Modifier.isPublic(method.getModifiers())) {
                face.add(method);
            }
        }
        face.sort(Comparator.comparing(Method::getName));
        return face;
    }

    public static void main(String[] args) {
        List<Method> face = face();
        long calls = 0;
        for (int state = 0; state < 12; state++) {
            // All on one object, so that each call meets what the others have left; then each in the state itself.
            Wild whole = new Wild();
            whole.begin(state);
            for (int i = 0; i < face.size(); i++) {
                Method method = face.get((i * (state % 3 + 1) + state) % face.size());
                whole.sweep(method, new Object[method.getParameterCount()], 0);
            }
            calls += whole.calls;
            for (Method method : face) {
                Wild apart = new Wild();
                apart.begin(state);
                apart.sweep(method, new Object[method.getParameterCount()], 0);
                calls += apart.calls;
            }
        }
        System.out.println(wrong == 0 ? calls + " calls, and none has thrown" : "calls have thrown");
        if (wrong != 0) {
            System.exit(1);
        }
    }
}
