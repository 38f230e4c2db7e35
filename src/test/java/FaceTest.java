import java.lang.reflect.Constructor;
import java.lang.reflect.Field;
import java.lang.reflect.Method;
import java.lang.reflect.Modifier;
import java.util.Arrays;
import java.util.Set;
import java.util.TreeSet;

/** The public face, and that no call throws for any numbers. */
public final class FaceTest {
    private static final Checks CHECKS = new Checks();
    private static final String[] METHODS = {"write int long", "wipe", "fault", "lay", "word int int int int",
        "far int int int int", "like int", "stand int int", "set int int int", "million int int int int", "won int int int",
        "soon int int", "use int int", "traders int int int int", "ready int int int int", "summer int int", "tongue int",
        "from int int", "chance int int int", "joined int", "children int int int", "even int int", "fewest int", "both",
        "lost int", "keep", "back", "count int"};
    private static final int[] EDGES = {Integer.MIN_VALUE, -1, 0, 1, 8, 200, Integer.MAX_VALUE};

    public static void main(String[] args) throws ReflectiveOperationException {
        constants();
        face();
        for (String text : new String[] {"", "w0,0,ab;w1,0,cd;n8,8;k10,10;e0,0,a;u01;j0,1,2;", "w0,1,abc;w1,1,abc;s1,d;n1,1;"}) {
            noCallThrows(text);
        }
        CHECKS.end();
    }

    private static void constants() {
        CHECKS.due("BAD", TradeWords.BAD, -1);
        CHECKS.due("NO", TradeWords.NO, -2);
        CHECKS.due("FULL", TradeWords.FULL, -3);
        CHECKS.due("NONE", TradeWords.NONE, -4);
    }

    private static void face() {
        Class<?> it = TradeWords.class;
        CHECKS.due("final", Modifier.isFinal(it.getModifiers()) ? 1 : 0, 1);
        Constructor<?>[] made = it.getDeclaredConstructors();
        CHECKS.due("constructors", made.length, 1);
        CHECKS.due("its parameters", made[0].getParameterCount(), 0);
        Set<String> seen = new TreeSet<>();
        for (Method method : it.getDeclaredMethods()) {
            if (Modifier.isPrivate(method.getModifiers())) continue;
            StringBuilder name = new StringBuilder(method.getName());
            for (Class<?> type : method.getParameterTypes()) name.append(' ').append(type.getName());
            seen.add(name.toString());
            CHECKS.due(name + " is public and answers an int",
                Modifier.isPublic(method.getModifiers()) && method.getReturnType() == int.class ? 1 : 0, 1);
        }
        CHECKS.due("methods: " + seen, seen.equals(new TreeSet<>(Arrays.asList(METHODS))) ? 1 : 0, 1);
        Set<String> fields = new TreeSet<>();
        for (Field field : it.getDeclaredFields()) {
            if (!Modifier.isPrivate(field.getModifiers())) fields.add(field.getName());
        }
        CHECKS.due("fields: " + fields, fields.equals(Set.of("BAD", "NO", "FULL", "NONE")) ? 1 : 0, 1);
    }

    private static void noCallThrows(String text) throws ReflectiveOperationException {
        for (Method method : TradeWords.class.getMethods()) {
            if (method.getDeclaringClass() != TradeWords.class) continue;
            int many = method.getParameterCount();
            int all = (int) Math.pow(EDGES.length, many);
            TradeWords x = null;
            for (int k = 0; k < all; k++) {
                if (k % 400 == 0) x = Checks.laid(text);
                Object[] numbers = new Object[many];
                int rest = k;
                for (int place = 0; place < many; place++) {
                    int edge = EDGES[rest % EDGES.length];
                    rest /= EDGES.length;
                    numbers[place] = method.getParameterTypes()[place] == long.class ? (Object) Long.valueOf(edge) : (Object) edge;
                }
                int answer = (int) method.invoke(x, numbers);
                CHECKS.due(method.getName() + Arrays.toString(numbers) + " answers " + answer, answer >= -4 ? 1 : 0, 1);
            }
        }
    }
}
