import java.lang.reflect.InvocationTargetException;
import java.lang.reflect.Method;
import java.lang.reflect.Modifier;
import java.util.function.Supplier;

/** No call ever throws: each call with all of some far and near numbers in all of its places, on unlike objects. */
public final class AnyNumbersTest {
    private static final int CALLS = 400;
    private static final int[] NUMBERS = {Integer.MIN_VALUE, Integer.MIN_VALUE + 1, -65536, -1, 0, 1, 2, 5, 9, 10, 11, 12, 13, 40, 400, Integer.MAX_VALUE - 1, Integer.MAX_VALUE};
    private static final long[] WORDS = {Long.MIN_VALUE, -1L, 0L, 0x73756e20393b2020L, 0x2020202020202020L, Long.MAX_VALUE};
    private static final Check check = new Check("AnyNumbersTest");

    private static SnowSentries x;
    private static int calls;

    public static void main(String[] args) throws Exception {
        on(SnowSentries::new);
        on(() -> Check.told("furlongs 1;sun 9 9 9 9 9 9 9 9 9 9 9 9;man west 0 child 0 0 99 3;man east 0 packed 99 99 0 0 bare;snow 0 200;"));
        on(AnyNumbersTest::full);
        on(() -> {
            SnowSentries late = full();
            late.go(12);
            return late;
        });
        check.finish();
    }

    private static SnowSentries full() {
        SnowSentries y = Check.told("furlongs 10;treaty 99 3 1;frost 9 9 9 9 9 9 9 9 9 9 9 9;man west 9 iced 1 1 1 1;man east 9 child 99 99 99 3;snow 9 200;"
            + "brazier 9 20 0 11;".repeat(6) + "house 9 9 east;".repeat(8));
        y.keep(0);
        y.sheet(0, 0, 0);
        y.sheet(1, 1, 40);
        y.sheet(2, 2, 12);
        y.felt(99);
        return y;
    }

    private static void on(Supplier<SnowSentries> maker) throws Exception {
        for (Method m : SnowSentries.class.getDeclaredMethods()) {
            if (Modifier.isPublic(m.getModifiers())) {
                x = maker.get();
                calls = 0;
                callAll(maker, m, new Object[m.getParameterCount()], 0);
            }
        }
    }

    private static void callAll(Supplier<SnowSentries> maker, Method m, Object[] numbers, int k) throws Exception {
        if (k == numbers.length) {
            callOnce(maker, m, numbers);
            return;
        }
        Class<?> type = m.getParameterTypes()[k];
        int many = type == int.class ? NUMBERS.length : type == long.class ? WORDS.length : 2;
        for (int n = 0; n < many; n++) {
            numbers[k] = type == int.class ? (Object) NUMBERS[n] : type == long.class ? (Object) WORDS[n] : (Object) (n == 1);
            callAll(maker, m, numbers, k + 1);
        }
    }

    private static void callOnce(Supplier<SnowSentries> maker, Method m, Object[] numbers) throws Exception {
        if (calls == CALLS) {
            x = maker.get();
            calls = 0;
        }
        calls++;
        try {
            m.invoke(x, numbers);
        } catch (InvocationTargetException e) {
            check.dueText(m.getName() + java.util.Arrays.toString(numbers), e.getCause().toString(), "no throw");
        }
    }
}
