import java.lang.reflect.InvocationTargetException;
import java.lang.reflect.Method;
import java.lang.reflect.Modifier;
import java.util.ArrayList;
import java.util.List;
import java.util.NoSuchElementException;
import java.util.Random;

/** Whatever the arguments and the state: no exception but the one the document names, where it names it. */
public final class WildTest {
    private static final int[] EDGES = {
        Integer.MIN_VALUE, Integer.MIN_VALUE + 1, -1000, -2, -1, 0, 1, 2, 3, 4, 5, 7, 8, 9, 11, 12, 13, 20, 21, 99, 100, 101,
        255, 256, 999, 1000, 3210, 123, 12, Integer.MAX_VALUE - 1, Integer.MAX_VALUE};
    private static final String[] PIECES = {
        "a", "h", "i", "less ", "cap ", "must ", " more ", " twice ", " step ", " least ", " most ", " better ", "0 ", "1 ", "2 ",
        "3 ", "7 ", "50 ", "100 ", "101 ", "1000 ", ";", ";", "; ", "\n", "?", "abcdefghi "};

    public static void main(String[] args) throws Exception {
        List<Method> calls = new ArrayList<>();
        for (Method m : EveryMeasure.class.getDeclaredMethods()) if (Modifier.isPublic(m.getModifiers())) calls.add(m);
        calls.sort((m, n) -> m.getName().compareTo(n.getName()));
        int thrown = 0;
        for (int seed = 0; seed < 300; seed++) {
            Random random = new Random(seed);
            EveryMeasure x = new EveryMeasure();
            for (int i = 0; i < 512; i++) {
                Method call = calls.get(random.nextInt(calls.size()));
                boolean restarts = call.getName().equals("measures") && random.nextInt(4) != 0;
                if (!restarts) thrown += make(x, call, random);
            }
        }
        Due.is("some throw", true, thrown > 100);
        Due.end();
    }

    private static int make(EveryMeasure x, Method call, Random random) throws Exception {
        Class<?>[] types = call.getParameterTypes();
        Object[] given = new Object[types.length];
        for (int i = 0; i < types.length; i++) {
            if (types[i] == boolean.class) given[i] = random.nextBoolean();
            else if (types[i] == long.class) given[i] = eight(random);
            else given[i] = random.nextInt(4) == 0 ? EDGES[random.nextInt(EDGES.length)] : random.nextInt(9) - 1;
        }
        try {
            call.invoke(x, given);
            return 0;
        } catch (InvocationTargetException e) {
            boolean named = List.of(call.getExceptionTypes()).contains(NoSuchElementException.class);
            boolean due = named && e.getCause().getClass() == NoSuchElementException.class;
            if (!due) e.getCause().printStackTrace(System.out);
            Due.is(call.getName() + " throws as told", true, due);
            return 1;
        }
    }

    private static long eight(Random random) {
        if (random.nextInt(10) == 0) return random.nextLong();
        StringBuilder text = new StringBuilder();
        while (text.length() < 8) text.append(PIECES[random.nextInt(PIECES.length)]);
        long word = 0;
        for (int i = 0; i < 8; i++) word = word << 8 | text.charAt(i);
        return word;
    }
}
