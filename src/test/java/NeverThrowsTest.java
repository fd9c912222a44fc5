import java.lang.reflect.InvocationTargetException;
import java.lang.reflect.Method;
import java.lang.reflect.Modifier;
import java.util.Arrays;
import java.util.Comparator;
import java.util.Random;

/** Calls of every method with numbers from everywhere, in states of all sorts: none may throw, and two runs agree. */
public final class NeverThrowsTest {
    private static final int[] ODD = {Integer.MIN_VALUE, Integer.MIN_VALUE + 1, -10000, -64, -3, -2, 12, 13, 20, 27, 28, 30, 35, 36,
        59, 60, 63, 64, 500, 501, 998, 999, 1000, 1319, 1320, Integer.MAX_VALUE - 1, Integer.MAX_VALUE};
    private static final String[] TEXTS = {"size 8 8;thing 0 0 0 0 0 faces 0;thing 0 7 0 1 5 faces 2;thing 1 3 3 2 9;wall 3 0 3 7 20;",
        "size 3 3;fence 0 1 2 1;wind 0 0;wind 7 7;slope up 9 down 9;grow 0 1;", "far 0 0 9;face 0 0 9 wall;wind 0 1 12;", "harm;leave;silent 3;"};

    public static void main(String[] args) throws Exception {
        Checks c = new Checks();
        Method[] all = FarTown.class.getDeclaredMethods();
        all = Arrays.stream(all).filter(m -> Modifier.isPublic(m.getModifiers())).toArray(Method[]::new);
        Arrays.sort(all, Comparator.comparing(Method::getName));
        c.due("methods of the face", all.length, 39);
        for (int run = 0; run < 300; run++) {
            long once = play(new Random(run), all, c, run);
            c.due("run " + run + " again", play(new Random(run), all, c, run), once);
        }
        c.finish();
    }

    private static long play(Random dice, Method[] all, Checks c, int run) throws Exception {
        FarTown f = new FarTown();
        long sum = 0;
        for (int call = 0; call < 512; call++) {
            if (dice.nextInt(12) == 0) {
                f.end(0);
                Checks.tell(f, 0, TEXTS[dice.nextInt(TEXTS.length)]);
            }
            Method m = all[dice.nextInt(all.length)];
            Object[] with = new Object[m.getParameterCount()];
            for (int i = 0; i < with.length; i++) {
                boolean odd = dice.nextInt(8) == 0;
                int small = dice.nextInt(6) - 1;
                with[i] = m.getParameterTypes()[i] == boolean.class ? (Object) dice.nextBoolean()
                    : m.getName().equals("feed") ? dice.nextInt() : odd ? ODD[dice.nextInt(ODD.length)] : small;
            }
            try {
                sum = sum * 31 + m.invoke(f, with).hashCode();
            } catch (InvocationTargetException e) {
                c.due("run " + run + ": " + m.getName() + Arrays.toString(with) + " threw " + e.getCause(), 1, 0);
            }
        }
        return sum;
    }
}
