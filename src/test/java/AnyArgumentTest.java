import java.lang.reflect.InvocationTargetException;
import java.lang.reflect.Method;
import java.util.ArrayList;
import java.util.Arrays;
import java.util.Comparator;
import java.util.List;
import java.util.Random;

/** No call throws, whatever its arguments are and whatever was called ahead of it. */
public final class AnyArgumentTest {
    private static final int[] NUMBERS = {
        Integer.MIN_VALUE, Integer.MIN_VALUE + 1, -1296000, -324001, -324000, -316801, -316800, -2, -1, 0, 1, 2, 3, 4,
        5, 6, 7, 8, 20, 36, 40, 41, 60, 100, 101, 200, 201, 1800, 2000, 2100, 2101, 2130, 2131, 2132, 8521, 8522,
        20000, 316799, 316800, 324000, 324001, 1295999, 1296000, 19630081, 20000000, Integer.MAX_VALUE - 1,
        Integer.MAX_VALUE};

    public static void main(String[] args) {
        List<Method> calls = new ArrayList<>();
        for (Method m : SheetNames.class.getDeclaredMethods()) {
            if (java.lang.reflect.Modifier.isPublic(m.getModifiers())) {
                calls.add(m);
            }
        }
        calls.sort(Comparator.comparing(Method::getName));
        int right = 0;
        int wrong = 0;
        for (int run = 0; run < 300; run++) {
            String thrown = thrownBy(calls, new Random(run));
            if (thrown == null) {
                right++;
            } else {
                wrong++;
                System.out.println("run " + run + ": " + thrown);
            }
        }
        System.out.println(right + " passed, " + wrong + " failed");
        if (wrong > 0) {
            System.exit(1);
        }
    }

    private static String thrownBy(List<Method> calls, Random draws) {
        SheetNames x = new SheetNames();
        cutMuch(x, draws);
        for (int i = 0; i < 500; i++) {
            Method call = calls.get(draws.nextInt(calls.size()));
            if (call.getName().equals("cut") && draws.nextInt(3) > 0) {
                continue;
            }
            Object[] with = new Object[call.getParameterCount()];
            for (int k = 0; k < with.length; k++) {
                with[k] = number(draws);
            }
            try {
                call.invoke(x, with);
            } catch (InvocationTargetException thrown) {
                return call.getName() + Arrays.toString(with) + " threw " + thrown.getCause();
            } catch (IllegalAccessException never) {
                return call.getName() + " is not public";
            }
        }
        return null;
    }

    private static void cutMuch(SheetNames x, Random draws) {
        if (draws.nextInt(3) == 0) {
            x.cut(1 + draws.nextInt(4), 6, 6);
            x.cut(1 + draws.nextInt(4), 6, 1 + draws.nextInt(6));
        } else if (draws.nextInt(2) == 0) {
            for (int level = 1; level <= 4; level++) {
                x.cut(level, 1 + draws.nextInt(2), 1 + draws.nextInt(3));
            }
        }
    }

    private static int number(Random draws) {
        switch (draws.nextInt(6)) {
            case 0: return draws.nextInt();
            case 1: return draws.nextInt(2000000) - 400000;
            case 2:
            case 3: return draws.nextInt(6) - 1;
            default: return NUMBERS[draws.nextInt(NUMBERS.length)];
        }
    }
}
