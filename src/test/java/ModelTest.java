import java.lang.reflect.InvocationTargetException;
import java.lang.reflect.Method;
import java.util.Arrays;
import java.util.Random;

/** Runs of calls by chance (always the same ones), held against PlainField. */
public final class ModelTest {
    private static final int RUNS = 240;
    private static final int CALLS = 511;
    private static final int[] ODD = {
        Integer.MIN_VALUE, Integer.MAX_VALUE, -1, -2, 0, 1, 255, 256, 65536, 1 << 30, -10000,
    };

    /** Calls with the bounds of each argument, least and most of what is mostly given. */
    private static final Object[][] CALLS_BY_KIND = {
        {"flyer", new int[] {0, 3, 0, 9999, 0, 1, 1, 40, 1, 9, 0, 204}},
        {"flyer", new int[] {0, 3, 3030, 3060, 0, 0, 1, 6, 1, 9, 0, 12}},
        {"as", new int[] {0, 8, 0, 4}},
        {"of", new int[] {0, 8, -1, 8}},
        {"go", new int[] {0, 7, 0, 9999}},
        {"go", new int[] {0, 7, 3030, 3050}},
        {"line", new int[] {0, 7, 0, 41}},
        {"wind", new int[] {0, 3, 0, 19, 0, 7, 0, 12}},
        {"wind", new int[] {0, 1, 0, 4, -1, 8, -1, 13}},
        {"windAt", new int[] {-1, 4, -1, 20, 0, 1}},
        {"flies", new int[] {0, 8, 0, 19}},
        {"flies", new int[] {0, 8, 0, 5}},
        {"kite", new int[] {0, 8, 0, 19, 0, 1}},
        {"meet", new int[] {0, 8, 0, 8, 0, 20}},
        {"meets", new int[] {-1, 20}},
        {"field", new int[] {-1, 20}},
        {"best", new int[] {0, 20, 0, 20}},
        {"row", new int[] {1, 6}},
        {"walk", new int[] {0, 3, 0, 1}},
        {"at", new int[] {-1, 5}},
        {"letter", new int[] {-1, 5, -2, 61}},
        {"letter", new int[] {0, 4, -1, 4}},
        {"tangle", new int[] {}},
        {"twist", new int[] {0, 5, 0, 5}},
        {"fewest", new int[] {-2, 3}},
        {"same", new int[] {2, 5, 0, 3, 0, 3}},
        {"sharp", new int[] {0, 5, 0, 9}},
        {"wear", new int[] {-1, 5}},
        {"lost", new int[] {}},
        {"sheet", new int[] {0, 3, 0, 32, 0, 41}},
        {"put", new int[] {0, 3, 0, 5, 0, 13}},
        {"copy", new int[] {0, 3, 0, 6, 0, 3, 0, 6, 0, 5}},
        {"gusts", new int[] {0, 3, 0, 19, 0, 3}},
        {"undo", new int[] {}},
        {"all", new int[] {-1, 5}},
    };

    public static void main(String[] args) throws Exception {
        for (int run = 0; run < RUNS; run++) {
            mixedRun(run);
            rowRun(run);
        }
        Due.end();
    }

    private static void mixedRun(int run) throws Exception {
        Random chance = new Random(run);
        KiteMeet x = new KiteMeet();
        PlainField plain = new PlainField();
        for (int i = 0; i < CALLS; i++) {
            Object[] kind = CALLS_BY_KIND[chance.nextInt(CALLS_BY_KIND.length)];
            int[] a = arguments(chance, (int[]) kind[1]);
            String name = (String) kind[0];
            if (name.equals("sheet") && chance.nextInt(10) > 0) {
                a[1] = new int[] {8, 8, 8, 16, 32, 0}[chance.nextInt(6)];
                a[2] = chance.nextInt(8);
            }
            if (name.equals("row") && chance.nextInt(4) > 0) {
                name = "undo";
                a = new int[0];
            }
            compare(x, plain, "run " + run + ", call " + i, name, a);
        }
        compareAll(x, plain, "run " + run);
    }

    /** Mostly walks, so that words get long and lines worn. */
    private static void rowRun(int run) throws Exception {
        Random chance = new Random(~run);
        KiteMeet x = new KiteMeet();
        PlainField plain = new PlainField();
        compare(x, plain, "row", "row", new int[] {2 + run % 4});
        for (int i = 0; i < 200; i++) {
            String where = "row run " + run + ", call " + i;
            int pick = chance.nextInt(40);
            if (pick == 0) {
                compare(x, plain, where, "sharp", new int[] {chance.nextInt(5), chance.nextInt(4)});
            } else if (pick == 1) {
                compare(x, plain, where, "flyer", new int[] {3, 0, 0, 1, 1, 0});
            } else if (pick < 5) {
                compare(x, plain, where, "undo", new int[0]);
            } else if (pick < 8) {
                compare(x, plain, where, "fewest", new int[] {chance.nextInt(4) - 1});
            } else {
                int[] walk = {chance.nextInt(1 + run % 4), chance.nextInt(2)};
                compare(x, plain, where, "walk", walk);
            }
        }
        compareAll(x, plain, "row run " + run);
    }

    private static int[] arguments(Random chance, int[] bounds) {
        int[] a = new int[bounds.length / 2];
        for (int i = 0; i < a.length; i++) {
            a[i] = bounds[2 * i] + chance.nextInt(bounds[2 * i + 1] - bounds[2 * i] + 1);
        }
        boolean hasBoolean = false;
        for (int i = 0; i < a.length; i++) {
            hasBoolean |= bounds[2 * i] == 0 && bounds[2 * i + 1] == 1 && i == a.length - 1;
        }
        int numbers = hasBoolean ? a.length - 1 : a.length;
        if (numbers > 0 && chance.nextInt(40) == 0) {
            a[chance.nextInt(numbers)] = ODD[chance.nextInt(ODD.length)];
        }
        return a;
    }

    private static void compareAll(KiteMeet x, PlainField plain, String where) throws Exception {
        for (int what = 0; what < 5; what++) {
            compare(x, plain, where, "all", new int[] {what});
        }
        for (int place = 0; place < 5; place++) {
            for (int i = -1; i < 60; i++) {
                compare(x, plain, where, "letter", new int[] {place, i});
            }
            compare(x, plain, where, "wear", new int[] {place});
            compare(x, plain, where, "at", new int[] {place});
            for (int other = 0; other < 5; other++) {
                compare(x, plain, where, "twist", new int[] {place, other});
            }
        }
    }

    private static void compare(KiteMeet x, PlainField plain, String where, String name, int[] a)
            throws Exception {
        Due.due(where + ": " + name + Arrays.toString(a), answer(x, name, a), plain.call(name, a));
    }

    private static int answer(KiteMeet x, String name, int[] a) throws Exception {
        for (Method m : KiteMeet.class.getDeclaredMethods()) {
            if (m.getName().equals(name)) {
                Object[] given = new Object[a.length];
                for (int i = 0; i < a.length; i++) {
                    boolean yes = m.getParameterTypes()[i] == boolean.class;
                    given[i] = yes ? (Object) (a[i] == 1) : (Object) a[i];
                }
                try {
                    return (Integer) m.invoke(x, given);
                } catch (InvocationTargetException e) {
                    throw new AssertionError(name + Arrays.toString(a) + " threw", e.getCause());
                }
            }
        }
        throw new IllegalArgumentException(name);
    }
}
