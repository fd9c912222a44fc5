import java.lang.reflect.InvocationTargetException;
import java.lang.reflect.Method;
import java.util.function.Supplier;

/** What the tests of sentences share: towns and laws made ready, and calls with one number too far. */
abstract class Edges {
    static final int NO = FarTown.NONE;
    static final int ODD = -10000;

    final Sentences s;

    Edges(Sentences s) {
        this.s = s;
    }

    abstract void play();

    FarTown told(String town, String... laws) {
        FarTown f = new FarTown();
        s.due("town of " + town, Checks.town(f, town), 0);
        for (int i = 0; i < laws.length; i++) {
            s.due("law of " + laws[i], Checks.law(f, laws[i]), i);
        }
        return f;
    }

    /** A new object with this town and this law, each of them twice. */
    FarTown twice(String town, String law) {
        FarTown f = told(town, law, law);
        s.due("the town once more", Checks.town(f, town), 1);
        return f;
    }

    static String times(int n, String text) {
        return text.repeat(Math.max(n, 0));
    }

    void townFault(String text, int fault, int place) {
        FarTown f = new FarTown();
        s.due("town of " + text, Checks.town(f, text), fault == 0 ? 0 : NO);
        s.due("fault of " + text, f.fault(0), fault);
        s.due("place of " + text, f.fault(1), place);
        s.due("towns after " + text, f.count(0), fault == 0 ? 1 : 0);
    }

    void townSound(String text) {
        townFault(text, 0, NO);
    }

    void lawFault(String text, int fault, int place) {
        FarTown f = new FarTown();
        s.due("law of " + text, Checks.law(f, text), fault == 0 ? 0 : NO);
        s.due("fault of " + text, f.fault(0), fault);
        s.due("place of " + text, f.fault(1), place);
        s.due("laws after " + text, f.count(1), fault == 0 ? 1 : 0);
    }

    void lawSound(String text) {
        lawFault(text, 0, NO);
    }

    /** A number of a town's text, told as # there: it can be from least to greatest, and else is a fault 2 at its place. */
    void townNumber(String text, int least, int greatest) {
        for (int n : new int[] {least - 1, least, greatest, greatest + 1, 9999}) {
            if (n >= 0) {
                boolean sound = n >= least && n <= greatest;
                townFault(text.replace("#", Integer.toString(n)), sound ? 0 : 2, sound ? NO : text.indexOf('#'));
            }
        }
    }

    void lawNumber(String text, int least, int greatest) {
        for (int n : new int[] {least - 1, least, greatest, greatest + 1, 9999}) {
            if (n >= 0) {
                boolean sound = n >= least && n <= greatest;
                lawFault(text.replace("#", Integer.toString(n)), sound ? 0 : 2, sound ? NO : text.indexOf('#'));
            }
        }
    }

    /** Of a call the at-th number can be from least to greatest; one beyond is refused so, the others being as told. */
    void argument(Supplier<FarTown> fresh, String call, int refused, int at, int least, int greatest, int... with) {
        for (int n : new int[] {Integer.MIN_VALUE, least - 1, least, greatest, greatest + 1, Integer.MAX_VALUE}) {
            int[] all = with.clone();
            all[at] = n;
            boolean there = n >= least && n <= greatest;
            StringBuilder told = new StringBuilder(call);
            for (int v : all) {
                told.append(' ').append(v);
            }
            s.due(told + (there ? " is answered" : " is refused"), call(fresh.get(), call, all) == refused, !there);
        }
    }

    /** Calls a method by its name; a boolean is told, and answered, as 1 or 0. */
    static int call(FarTown f, String name, int... with) {
        for (Method m : FarTown.class.getDeclaredMethods()) {
            if (m.getName().equals(name)) {
                Object[] all = new Object[with.length];
                for (int i = 0; i < all.length; i++) {
                    all[i] = m.getParameterTypes()[i] == boolean.class ? (Object) (with[i] != 0) : (Object) with[i];
                }
                try {
                    Object got = m.invoke(f, all);
                    return got instanceof Boolean b ? b ? 1 : 0 : (Integer) got;
                } catch (IllegalAccessException | InvocationTargetException e) {
                    throw new IllegalStateException(name, e);
                }
            }
        }
        throw new IllegalStateException(name);
    }
}
