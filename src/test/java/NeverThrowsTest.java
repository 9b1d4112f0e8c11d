import java.lang.reflect.InvocationTargetException;
import java.lang.reflect.Method;
import java.lang.reflect.Modifier;
import java.util.ArrayList;
import java.util.Comparator;
import java.util.List;
import java.util.NoSuchElementException;
import java.util.Random;

/** No call throws but person(), and person() only what the document says, for any arguments in any state. */
public final class NeverThrowsTest {
    private static final int[] EDGES = {Integer.MIN_VALUE, -2, -1, 0, 1, 2, 3, 6, 7, 8, 9, 11, 12, 13, 24, 30, 99, 100,
        700, 999, 9999, 10000, Integer.MAX_VALUE};
    private static final String[] TOWNS = {
        "", Check.ROW,
        "house a;person p a 7 9;coat a 7 9;dog d a 1;wind 100;law smell 9999*9999*9999*force;law nose air/dish;",
        "house a;house b;house c;house d;house e;house f;house g;person p a 7 9;person q g 0 1;person r g 1 1;"
                + "person s g 2 2;person t g 3 3;person u g 4 4;person v g 5 5;person w g 6 6;person x g 7 7;"
                + "dog p a 1;dog q g 9;dog r g 1;wind 100;law smell force*9;law due heads*heads*(year-5)/dish;"};

    public static void main(String[] args) throws IllegalAccessException {
        List<Method> face = face();
        Random random = new Random(7);
        for (int run = 0; run < 200; run++) {
            NoseCensus x = Check.town(TOWNS[run % TOWNS.length]);
            for (int call = 0; call < 450; call++) {
                Method method = face.get(random.nextInt(face.size()));
                ask(x, method, arguments(method, random));
            }
        }
        Check.end();
    }

    /** In one order, so that the same calls are made each time. */
    private static List<Method> face() {
        List<Method> face = new ArrayList<>();
        for (Method method : NoseCensus.class.getDeclaredMethods()) {
            // A text() of wild bytes would leave most runs without houses.
            if (Modifier.isPublic(method.getModifiers()) && !method.getName().equals("text")) {
                face.add(method);
            }
        }
        face.sort(Comparator.comparing(Method::getName));
        return face;
    }

    private static Object[] arguments(Method method, Random random) {
        Class<?>[] types = method.getParameterTypes();
        Object[] arguments = new Object[types.length];
        for (int i = 0; i < types.length; i++) {
            if (types[i] == boolean.class) {
                arguments[i] = random.nextBoolean();
            } else {
                arguments[i] = random.nextInt(3) == 0 ? EDGES[random.nextInt(EDGES.length)] : random.nextInt(8);
            }
        }
        return arguments;
    }

    private static void ask(NoseCensus x, Method method, Object[] arguments) throws IllegalAccessException {
        try {
            method.invoke(x, arguments);
        } catch (InvocationTargetException e) {
            Class<?> thrown = e.getCause().getClass();
            boolean allowed = thrown == IndexOutOfBoundsException.class || thrown == NoSuchElementException.class;
            Check.yes(method.getName() + " threw " + thrown, allowed && method.getName().equals("person"));
        }
    }
}
