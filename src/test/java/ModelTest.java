import java.util.Arrays;
import java.util.Random;

/** Runs of calls by chance (always the same ones), held against PlainField. */
public final class ModelTest {
    private static final int RUNS = 240;
    /** A run's calls; or, of one at whose end all is looked at with 345 calls more, fewer. */
    private static final int CALLS = 512;
    private static final int CALLS_AHEAD_OF_ALL = 165;
    private static final int[] ODD = {
        Integer.MIN_VALUE, Integer.MAX_VALUE, -1, -2, 0, 1, 255, 256, 65536, 1 << 30, -10000,
    };

    /** Calls with the bounds of each argument, least and most of what is mostly given. */
    private static final Object[][] CALLS_BY_KIND = {
        {"flyer", new int[] {0, 3, 0, 9999, 0, 1, 1, 40, 1, 9, 0, 204}},
        {"flyer", new int[] {0, 3, 3030, 3060, 0, 0, 1, 6, 1, 9, 0, 12}},
        {"as", new int[] {0, 8, 0, 4}},
        {"of", new int[] {0, 8, -1, 8}},
        {"go", new int[] {0, 7, 0, 9999}},
        {"go", new int[] {0, 7, 3030, 3050}},
        {"line", new int[] {0, 7, 0, 41}},
        {"wind", new int[] {0, 3, 0, 19, 0, 7, 0, 12}},
        {"wind", new int[] {0, 1, 0, 4, -1, 8, -1, 13}},
        {"windAt", new int[] {-1, 4, -1, 20, 0, 1}},
        {"flies", new int[] {0, 8, 0, 19}},
        {"flies", new int[] {0, 8, 0, 5}},
        {"kite", new int[] {0, 8, 0, 19, 0, 1}},
        {"meet", new int[] {0, 8, 0, 8, 0, 20}},
        {"meets", new int[] {-1, 20}},
        {"field", new int[] {-1, 20}},
        {"best", new int[] {0, 20, 0, 20}},
        {"row", new int[] {1, 6}},
        {"walk", new int[] {0, 3, 0, 1}},
        {"at", new int[] {-1, 5}},
        {"letter", new int[] {-1, 5, -2, 61}},
        {"letter", new int[] {0, 4, -1, 4}},
        {"tangle", new int[] {}},
        {"twist", new int[] {0, 5, 0, 5}},
        {"fewest", new int[] {-2, 3}},
        {"same", new int[] {2, 5, 0, 3, 0, 3}},
        {"sharp", new int[] {0, 5, 0, 9}},
        {"wear", new int[] {-1, 5}},
        {"lost", new int[] {}},
        {"sheet", new int[] {0, 3, 0, 32, 0, 41}},
        {"put", new int[] {0, 3, 0, 5, 0, 13}},
        {"copy", new int[] {0, 3, 0, 6, 0, 3, 0, 6, 0, 5}},
        {"gusts", new int[] {0, 3, 0, 19, 0, 3}},
        {"undo", new int[] {}},
        {"all", new int[] {-1, 5}},
    };

    public static void main(String[] args) throws Exception {
        for (int run = 0; run < RUNS; run++) {
            mixedRun(run);
            rowRun(run);
            airRun(run);
            sheetRun(run);
        }
        Due.end();
    }

    private static void mixedRun(int run) throws Exception {
        Random chance = new Random(run);
        KiteMeet x = new KiteMeet();
        PlainField plain = new PlainField();
        int calls = run % 2 == 0 ? CALLS : CALLS_AHEAD_OF_ALL;
        for (int i = 0; i < calls; i++) {
            Object[] kind = CALLS_BY_KIND[chance.nextInt(CALLS_BY_KIND.length)];
            int[] a = arguments(chance, (int[]) kind[1]);
            String name = (String) kind[0];
            if (name.equals("sheet") && chance.nextInt(10) > 0) {
                a[1] = new int[] {8, 8, 8, 16, 32, 0}[chance.nextInt(6)];
                a[2] = chance.nextInt(8);
            }
            if (name.equals("row") && chance.nextInt(4) > 0) {
                name = "undo";
                a = new int[0];
            }
            compare(x, plain, "run " + run + ", call " + i, name, a);
        }
        if (run % 2 == 1) {
            compareAll(x, plain, "run " + run);
        }
    }

    /** Mostly walks, so that words get long and lines worn. */
    private static void rowRun(int run) throws Exception {
        Random chance = new Random(~run);
        KiteMeet x = new KiteMeet();
        PlainField plain = new PlainField();
        compare(x, plain, "row", "row", new int[] {2 + run % 4});
        for (int i = 0; i < CALLS_AHEAD_OF_ALL; i++) {
            String where = "row run " + run + ", call " + i;
            int pick = chance.nextInt(40);
            if (pick == 0) {
                compare(x, plain, where, "sharp", new int[] {chance.nextInt(5), chance.nextInt(4)});
            } else if (pick == 1) {
                compare(x, plain, where, "flyer", new int[] {3, 0, 0, 1, 1, 0});
            } else if (pick < 5) {
                compare(x, plain, where, "undo", new int[0]);
            } else if (pick < 8) {
                compare(x, plain, where, "fewest", new int[] {chance.nextInt(4) - 1});
            } else {
                int[] walk = {chance.nextInt(1 + run % 4), chance.nextInt(2)};
                compare(x, plain, where, "walk", walk);
            }
        }
        compareAll(x, plain, "row run " + run);
    }

    /** Kites that are near one another, in winds that change little, so that many fly and meet. */
    private static void airRun(int run) throws Exception {
        Random chance = new Random(1000 + run);
        KiteMeet x = new KiteMeet();
        PlainField plain = new PlainField();
        int flyers = 2 + run % 7;
        for (int i = 0; i < flyers; i++) {
            int[] flyer = {
                chance.nextInt(4), near(chance), chance.nextInt(8) / 7, 1 + chance.nextInt(6),
                1 + chance.nextInt(5), 16 * chance.nextInt(3) + 3 + chance.nextInt(6),
            };
            compare(x, plain, "air run " + run, "flyer", flyer);
        }
        for (int i = 0; i < 400; i++) {
            String where = "air run " + run + ", call " + i;
            int flyer = chance.nextInt(flyers);
            int minute = chance.nextInt(20);
            switch (chance.nextInt(9)) {
                case 0: compare(x, plain, where, "go", flyer, near(chance)); break;
                case 1: compare(x, plain, where, "line", flyer, 1 + chance.nextInt(9)); break;
                case 2: compare(x, plain, where, "flies", flyer, minute); break;
                case 3: compare(x, plain, where, "meets", minute); break;
                case 4: compare(x, plain, where, "field", minute); break;
                case 5: compare(x, plain, where, "best", chance.nextInt(minute + 1), minute); break;
                case 6: compare(x, plain, where, "meet", flyer, chance.nextInt(flyers), minute); break;
                case 7: compare(x, plain, where, "kite", flyer, minute, chance.nextInt(2)); break;
                default: compare(x, plain, where, "wind",
                        chance.nextInt(2), minute, chance.nextInt(8), chance.nextInt(8)); break;
            }
        }
        for (int minute = 0; minute < 20; minute++) {
            compare(x, plain, "air run " + run, "field", minute);
        }
    }

    private static int near(Random chance) {
        return 100 * (45 + chance.nextInt(15)) + 45 + chance.nextInt(15);
    }

    /** Sheets that tell walks; one is told from another by walks that can be told otherwise. */
    private static void sheetRun(int run) throws Exception {
        Random chance = new Random(2000 + run);
        KiteMeet x = new KiteMeet();
        PlainField plain = new PlainField();
        int n = 2 + run % 4;
        for (int round = 0; round < 8; round++) {
            String where = "sheet run " + run + ", round " + round;
            int count = chance.nextInt(round < 6 ? 8 : 20);
            int bits = 8 << chance.nextInt(3);
            compare(x, plain, where, "sheet", 0, bits, count);
            compare(x, plain, where, "sheet", 1, bits, count + 2);
            for (int i = 0; i < count; i++) {
                compare(x, plain, where, "put", 0, i, chance.nextInt(2 * (n - 1)));
            }
            int ahead = chance.nextInt(count + 1);
            compare(x, plain, where, "copy", 0, 0, 1, 0, ahead);
            compare(x, plain, where, "copy", 0, ahead, 1, ahead + 2, count - ahead);
            int there = chance.nextInt(2 * (n - 1));
            compare(x, plain, where, "put", 1, ahead, there);
            compare(x, plain, where, "put", 1, ahead + 1, chance.nextInt(5) == 0 ? there : there ^ 1);
            compare(x, plain, where, "same", n, 0, 1);
            compare(x, plain, where, "same", n, 1, 0);
            compare(x, plain, where, "same", 2 + chance.nextInt(4), 0, 1);
            compare(x, plain, where, "gusts", 0, chance.nextInt(20), chance.nextInt(3));
            compare(x, plain, where, "windAt", 0, chance.nextInt(20), 0);
        }
    }

    private static int[] arguments(Random chance, int[] bounds) {
        int[] a = new int[bounds.length / 2];
        for (int i = 0; i < a.length; i++) {
            a[i] = bounds[2 * i] + chance.nextInt(bounds[2 * i + 1] - bounds[2 * i] + 1);
        }
        boolean hasBoolean = false;
        for (int i = 0; i < a.length; i++) {
            hasBoolean |= bounds[2 * i] == 0 && bounds[2 * i + 1] == 1 && i == a.length - 1;
        }
        int numbers = hasBoolean ? a.length - 1 : a.length;
        if (numbers > 0 && chance.nextInt(40) == 0) {
            a[chance.nextInt(numbers)] = ODD[chance.nextInt(ODD.length)];
        }
        return a;
    }

    private static void compareAll(KiteMeet x, PlainField plain, String where) throws Exception {
        for (int what = 0; what < 5; what++) {
            compare(x, plain, where, "all", new int[] {what});
        }
        for (int place = 0; place < 5; place++) {
            for (int i = -1; i < 60; i++) {
                compare(x, plain, where, "letter", new int[] {place, i});
            }
            compare(x, plain, where, "wear", new int[] {place});
            compare(x, plain, where, "at", new int[] {place});
            for (int other = 0; other < 5; other++) {
                compare(x, plain, where, "twist", new int[] {place, other});
            }
        }
    }

    private static void compare(KiteMeet x, PlainField plain, String where, String name, int... a)
            throws Exception {
        int want = plain.call(name, a);
        Due.due(where + ": " + name + Arrays.toString(a), Calls.answer(x, name, a), want);
    }
}
