import java.lang.reflect.Constructor;
import java.lang.reflect.Field;
import java.lang.reflect.InvocationTargetException;
import java.lang.reflect.Method;
import java.lang.reflect.Modifier;
import java.util.ArrayList;
import java.util.List;
import java.util.Random;

/**
 * Rule 7 of LANGUAGE.md, in the classes inside too: what one class asks of another never throws, with whatever numbers
 * and in whatever state: an index is looked at where it is used.
 */
public final class PartsTest {
    /** Numbers about the edges of all rows, and far from them. */
    private static final int[] NUMBERS = {-2147483648, -1000, -129, -10, -2, -1, 0, 1, 2, 3, 4, 5, 6, 7, 8, 9, 10, 11,
        12, 13, 16, 24, 79, 80, 81, 255, 399, 400, 401, 1999, 2000, 2147483647};
    /** How far is gone and how many are counted is no index: held to what the document knows, or they take too long. */
    private static final int[] SMALL = {-1, 0, 1, 2, 3};
    private static final String TEXT = "fiddle a old 1 2 3;fiddle b new 3 2 1 barred;fiddle c old 9 0 4;"
            + "player p 1 2 3 4;hearer h 1 2 3 4;player q 4 3 2 1;bow w 0 1 -1;"
            + "law l=bright*warm+[loud<quick]*noise;law m=old;law n=50+noise*spot;"
            + "plan x{sit p with w:a,b,c;sit h with w:c,b;sit q with w seen:b,a;}plan y{}plan z{sit q with w:b,c,a;}";

    private static int wrong = 0;
    private static long held = 0;
    private static final Random random = new Random(9);

    public static void main(String[] args) throws Exception {
        for (Class<?> part : BlindFiddles.class.getDeclaredClasses()) {
            for (Method method : part.getDeclaredMethods()) {
                if (!Modifier.isPrivate(method.getModifiers()) && !method.isSynthetic()) {
                    method.setAccessible(true);
                    tryOften(part, method);
                }
            }
        }
        for (Method method : BlindFiddles.class.getDeclaredMethods()) {
            if (Modifier.isPublic(method.getModifiers())) {
                tryOften(BlindFiddles.class, method);
            }
        }
        System.out.println(wrong == 0 ? held + " calls did not throw" : wrong + " of " + held + " calls threw");
        if (wrong != 0) {
            System.exit(1);
        }
    }

    private static void tryOften(Class<?> part, Method method) throws Exception {
        for (int round = 0; round < 6; round++) {
            BlindFiddles room = room(round);
            BlindFiddles other = room(round + 1);
            for (int i = 0; i < 60; i++) {
                tryOnce(method, partOf(part, room), numbersFor(part, method), room, other);
            }
        }
    }

    /** A room in one state or another. */
    private static BlindFiddles room(int state) {
        BlindFiddles x = new BlindFiddles();
        if (state % 3 > 0) {
            Due.tell(x, TEXT);
        }
        for (int i = 0; i < 4 && state % 3 > 1; i++) {
            x.run(0, 2, 1, i);
            x.run(2, 0, 1, i);
            x.annul(3 * i);
            x.say(x.count(5));
        }
        if (state % 2 > 0) {
            Due.feed(x, TEXT.substring(0, 40 * state));
        }
        return x;
    }

    private static int[] numbersFor(Class<?> part, Method method) {
        boolean goesFar = part.getSimpleName().equals("Ways") || method.getName().equals("extreme");
        return goesFar ? SMALL : NUMBERS;
    }

    private static void tryOnce(Method method, Object it, int[] numbers, BlindFiddles room, BlindFiddles other)
            throws Exception {
        Class<?>[] types = method.getParameterTypes();
        Object[] values = new Object[types.length];
        List<String> told = new ArrayList<>();
        for (int i = 0; i < types.length; i++) {
            int number = numbers[random.nextInt(numbers.length)];
            if (types[i] == int.class) {
                values[i] = number;
            } else if (types[i] == long.class) {
                values[i] = (long) number;
            } else if (types[i] == boolean.class) {
                values[i] = random.nextBoolean();
            } else {
                values[i] = partOf(types[i], random.nextBoolean() ? room : other);
            }
            told.add(types[i].isPrimitive() ? "" + values[i] : types[i].getSimpleName());
        }
        held++;
        try {
            method.invoke(Modifier.isStatic(method.getModifiers()) ? null : it, values);
        } catch (InvocationTargetException thrown) {
            wrong++;
            System.out.println(method.getDeclaringClass().getSimpleName() + "." + method.getName() + told + " threw "
                    + thrown.getCause());
        }
    }

    /** The room's own part of this class; a new one where it keeps none. */
    private static Object partOf(Class<?> part, BlindFiddles room) throws Exception {
        if (part == BlindFiddles.class) {
            return room;
        }
        for (Field field : BlindFiddles.class.getDeclaredFields()) {
            if (field.getType() == part) {
                field.setAccessible(true);
                return field.get(room);
            }
        }
        Constructor<?> maker = part.getDeclaredConstructor();
        maker.setAccessible(true);
        return maker.newInstance();
    }
}
