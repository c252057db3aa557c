import java.lang.reflect.InvocationTargetException;
import java.lang.reflect.Method;
import java.lang.reflect.Modifier;
import java.util.ArrayList;
import java.util.Arrays;
import java.util.Comparator;
import java.util.List;
import java.util.Random;

/**
 * LANGUAGE.md's rule 7: whatever is asked in whatever state, a call throws only what its face names, by a throw of the
 * class's own, and such a call changes nothing that count() tells.
 */
final class WildTest {
    private static final int[] ODD = {Integer.MIN_VALUE, Integer.MIN_VALUE + 1, -241, -240, -12, -2, -1, 0, 4, 5, 7, 8, 9, 10,
        11, 12, 13, 23, 24, 39, 40, 41, 99, 100, 143, 144, 200, 201, 239, 240, 531440, 531441, 1 << 30,
        Integer.MAX_VALUE - 1, Integer.MAX_VALUE};

    private static final String[] COASTS = {
        "sea 12 12;light 0 0 12 200 1 eeee l;light 5 5 12 200 9 nsew k;light 11 11 3 50 2 wn lk;light 1 1 9 9 9 o kl;"
            + "light 7 3 5 120 4 sssnn lll;ship 0 0 12;ship 11 11 3;ship 3 4 0;ship 5 6 7;ship 1 2 3;ship 9 9 9;"
            + "ship 4 4 4;ship 8 1 1;cape 6 6;fog 0 1 2 3 4 5 6 7;yields oil*9999*9999/(rank-rank)+lit;"
            + "yields 0-hour<light and not oil;yields rank;",
        "sea 1 1;light 0 0 1 1 1 e l;ship 0 0 1;", "sea 1 12;light 0 0 1 1 1 s l;light 0 1 3 9 2 n k;ship 0 5 1;",
        "ship 0 0 0;", "light 3 3 3 3 3 nesw lk;", "", "yields 1;fog 9;cape 0 0;", "light 0 0 1", "yields ((((((1))))));"};

    private final Due due = new Due("WildTest");
    private final Random random = new Random(42);
    private final List<Method> face = new ArrayList<>();
    private SailingLights x;

    public static void main(String[] args) throws IllegalAccessException {
        new WildTest().run();
    }

    private void run() throws IllegalAccessException {
        for (Method m : SailingLights.class.getDeclaredMethods()) {
            if (Modifier.isPublic(m.getModifiers())) {
                face.add(m);
            }
        }
        // The machine's own order of methods isn't promised, the same draws shall make the same calls.
        face.sort(Comparator.comparing(Method::getName));
        due.rule(7, "no call may ever throw by itself");
        for (int i = 0; i < 400; i++) {
            x = new SailingLights();
            for (int call = 0; call < 512; call++) {
                if (call % 64 == 1) {
                    x.coast(0);
                    Due.read(x, COASTS[random.nextInt(COASTS.length)]);
                }
                wild(face.get(random.nextInt(face.size())));
            }
        }
        due.end();
    }

    private int drawn() {
        switch (random.nextInt(8)) {
            case 0: case 1: return ODD[random.nextInt(ODD.length)];
            case 2: return random.nextInt(240);
            case 3: return random.nextInt(20) == 0 ? random.nextInt() : 0;
            default: return random.nextInt(6);
        }
    }

    private int[] counts() {
        int[] all = new int[13];
        for (int what = 0; what < all.length; what++) {
            all[what] = x.count(what);
        }
        return all;
    }

    private void wild(Method m) throws IllegalAccessException {
        Object[] values = new Object[m.getParameterCount()];
        for (int i = 0; i < values.length; i++) {
            values[i] = m.getParameterTypes()[i] == int.class ? (Object) drawn() : (Object) random.nextBoolean();
        }
        String call = m.getName() + Arrays.toString(values);
        int[] before = counts();
        try {
            m.invoke(x, values);
        } catch (InvocationTargetException e) {
            Throwable thrown = e.getCause();
            boolean named = Arrays.asList(m.getExceptionTypes()).contains(thrown.getClass());
            due.is(call + " threw " + thrown, named && isOwn(thrown), true);
            due.is(call + " changed what is counted", Arrays.equals(before, counts()), true);
        }
    }

    private static boolean isOwn(Throwable thrown) {
        // The machine tells no rows for what it throws often: that is none of the class's own throws either.
        StackTraceElement[] rows = thrown.getStackTrace();
        return rows.length > 0 && rows[0].getClassName().startsWith("SailingLights");
    }
}
