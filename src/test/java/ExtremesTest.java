import java.lang.reflect.InvocationTargetException;
import java.lang.reflect.Method;
import java.lang.reflect.Modifier;
import java.util.Arrays;
import java.util.Random;

/** Any arguments in any state: nothing reaches the caller but the exceptions that a call's line in the document names. */
public final class ExtremesTest {
    private static final int[] INTS = {Integer.MIN_VALUE, Integer.MIN_VALUE + 1, -65536, -101, -2, -1, 0, 1, 2, 3, 4, 5, 6, 7, 11,
        12, 20, 21, 24, 25, 39, 40, 41, 47, 48, 59, 60, 61, 63, 64, 83, 84, 99, 100, 101, 191, 192, 335, 336, 599, 600, 601, 700,
        701, 1000, 1001, 2000, 65536, Integer.MAX_VALUE - 1, Integer.MAX_VALUE};
    private static final String[] TEXTS = {"", "tube 12;hand 9;miss 1;noise 1;pressure 1;mark 11;clung 99 99;hole 11 rim 24 slow;",
        "tube 84;hand 1;miss 99;pressure 100;hole 0 rim 1;hole 1 rim 1;hole 2 rim 1;hole 3 rim 1;hole 83 rim 1;hole 82 left 1;"
            + "leak 9999*9999*9999-minute*9999*9999;holds 9999*9999*near/(cold-damp)/(minutes-30);"
            + "try 99 99;try 1 99;try 99 1;try 1 1;try 50 50;try 2 2;rider 0 39 23 flat;rider 39 0 0 well;",
        "cause thorn 0;cause kerb 0;cause spoke 0;hand 9;hole 0 rim 1;leak 0;holds 0-1;try 1 1;rider 5 5 5 well;",
        "cause thorn 99;cause valve 0;noise 99;hole 47 outer 24;leak size/(pressure-59)/(load-1);holds 1/0;"};

    private final Random random = new Random(20261118);
    private BucketTube tube = new BucketTube();
    private int calls = 0;

    private ExtremesTest() {
    }

    public static void main(String[] args) throws IllegalAccessException {
        new ExtremesTest().go();
        Due.end();
    }

    private void go() throws IllegalAccessException {
        Method[] methods = Arrays.stream(BucketTube.class.getDeclaredMethods())
                .filter(m -> Modifier.isPublic(m.getModifiers())).sorted((a, b) -> a.getName().compareTo(b.getName()))
                .toArray(Method[]::new);
        for (int i = 0; i < 60000; i++) {
            if (calls > 470) {
                tube = new BucketTube();
                calls = 0;
            }
            if (calls == 0 && random.nextInt(8) > 0) {
                tell();
            }
            call(methods[random.nextInt(methods.length)]);
        }
    }

    private void tell() {
        String text = TEXTS[random.nextInt(TEXTS.length)];
        Due.due("FAULT of " + text, 0, Due.shed(tube, text));
        calls += 1 + text.length() / 20 + 1;
    }

    private void call(Method method) throws IllegalAccessException {
        Object[] arguments = new Object[method.getParameterCount()];
        for (int i = 0; i < arguments.length; i++) {
            arguments[i] = method.getParameterTypes()[i] == boolean.class ? (Object) random.nextBoolean()
                    : (Object) INTS[random.nextInt(INTS.length)];
        }
        calls++;
        boolean fine = true;
        try {
            method.invoke(tube, arguments);
        } catch (InvocationTargetException e) {
            fine = Arrays.asList(method.getExceptionTypes()).contains(e.getCause().getClass());
        }
        Due.due(method.getName() + Arrays.toString(arguments) + " throws as told", 1, fine ? 1 : 0);
    }
}
