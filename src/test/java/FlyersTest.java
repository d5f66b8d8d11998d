/** Promises 1 to 8: a new object, flyers and winds. */
public final class FlyersTest {
    public static void main(String[] args) {
        newObject();
        flyer();
        flyerFindings();
        as();
        of();
        go();
        line();
        wind();
        windAt();
        Due.end();
    }

    /** Promise 1. */
    private static void newObject() {
        KiteMeet x = new KiteMeet();
        Due.due("flyers", x.all(0), 0);
        Due.due("row", x.all(1), 3);
        Due.due("walks", x.all(2), 0);
        Due.due("untangled", x.all(3), 1);
        Due.due("findings", x.all(4), 0);
        Due.due("tangle", x.tangle(), 0);
        Due.due("lost", x.lost(), 0);
        for (int p = 0; p < 3; p++) {
            Due.due("at", x.at(p), p);
            Due.due("length", x.letter(p, -1), 1);
            Due.due("letter", x.letter(p, 0), p);
            Due.due("wear", x.wear(p), 0);
        }
        for (int h = 0; h < 4; h++) {
            for (int m = 0; m < 20; m++) {
                Due.due("force", x.windAt(h, m, false), 0);
                Due.due("direction", x.windAt(h, m, true), 0);
            }
        }
        Due.due("of no flyer", x.of(0, 0), Due.BEYOND);
        for (int s = 0; s < 4; s++) {
            Due.due("missing sheet", x.put(s, 0, 0), Due.MISSING);
        }
        Due.due("nothing to undo", x.undo(), Due.NONE);
    }

    /** Promise 2. */
    private static void flyer() {
        KiteMeet x = new KiteMeet();
        Due.due("least of all", x.flyer(0, 0, 0, 1, 1, 0), 0);
        Due.due("most of all", x.flyer(3, 9999, 3, 40, 9, 12 * 16 + 12), 1);
        for (int i = 2; i < 8; i++) {
            Due.due("next", x.flyer(i % 4, 100 * i + i, i % 4, i, i, 16 * i + 12), i);
        }
        Due.due("eight", x.all(0), 8);
        Due.due("no ninth", x.flyer(0, 0, 0, 1, 1, 0), Due.FULL);
        Due.due("SIZE is asked ahead of FULL", x.flyer(0, 0, 0, 1, 1, 16), Due.SIZE);
        Due.due("BEYOND is asked ahead of FULL", x.flyer(4, 0, 0, 1, 1, 0), Due.BEYOND);
        Due.due("still eight", x.all(0), 8);
    }

    private static void flyerFindings() {
        KiteMeet x = new KiteMeet();
        int[][] beyond = {
            {-1, 0, 0, 1, 1, 0}, {4, 0, 0, 1, 1, 0},
            {0, -1, 0, 1, 1, 0}, {0, 10000, 0, 1, 1, 0},
            {0, 0, -1, 1, 1, 0}, {0, 0, 4, 1, 1, 0},
            {0, 0, 0, 0, 1, 0}, {0, 0, 0, 41, 1, 0},
            {0, 0, 0, 1, 0, 0}, {0, 0, 0, 1, 10, 0},
            {0, 0, 0, 1, 1, -1}, {0, 0, 0, 1, 1, -16}, {0, 0, 0, 1, 1, 13},
            {0, 0, 0, 1, 1, 15}, {0, 0, 0, 1, 1, 13 * 16 + 12}, {0, 0, 0, 1, 1, 12 * 16 + 13},
            {0, 0, 0, 1, 1, Integer.MAX_VALUE}, {0, 0, 0, 1, 1, Integer.MIN_VALUE},
            {Integer.MIN_VALUE, 0, 0, 1, 1, 0}, {0, Integer.MAX_VALUE, 0, 1, 1, 0},
            {9, 0, 0, 1, 1, 16 * 5 + 4},
        };
        for (int[] a : beyond) {
            Due.due("flyer" + java.util.Arrays.toString(a),
                    x.flyer(a[0], a[1], a[2], a[3], a[4], a[5]), Due.BEYOND);
        }
        Due.due("LEAST above MOST", x.flyer(0, 0, 0, 1, 1, 16 * 5 + 4), Due.SIZE);
        Due.due("LEAST is MOST", x.flyer(0, 0, 0, 1, 1, 16 * 5 + 5), 0);
        Due.due("findings changed nothing", x.all(0), 1);
        Due.due("findings are no acts to undo", x.undo(), 0);
    }

    /** Promise 3: rows are flyers' kinds, columns the kinds asked for. */
    private static void as() {
        KiteMeet x = new KiteMeet();
        boolean[][] fits = {
            {true, false, false, false},
            {true, true, false, false},
            {true, false, true, false},
            {true, true, false, true},
        };
        for (int kind = 0; kind < 4; kind++) {
            x.flyer(kind, 0, 0, 1, 1, 0);
            for (int as = 0; as < 4; as++) {
                Due.due("as " + kind + " " + as, x.as(kind, as), fits[kind][as] ? kind : Due.KIND);
            }
        }
        Due.due("kind 4", x.as(0, 4), Due.BEYOND);
        Due.due("kind -1", x.as(0, -1), Due.BEYOND);
        Due.due("flyer 4", x.as(4, 0), Due.BEYOND);
        Due.due("flyer -1", x.as(-1, 0), Due.BEYOND);
    }

    /** Promise 4. */
    private static void of() {
        KiteMeet x = new KiteMeet();
        x.flyer(2, 1234, 3, 40, 9, 16 * 7 + 11);
        x.flyer(3, 9900, 1, 5, 2, 12);
        int[][] want = {{2, 12, 34, 3, 40, 9, 7, 11}, {3, 99, 0, 1, 5, 2, 0, 12}};
        for (int f = 0; f < 2; f++) {
            for (int what = 0; what < 8; what++) {
                Due.due("of " + f + " " + what, x.of(f, what), want[f][what]);
            }
        }
        Due.due("what 8", x.of(0, 8), Due.BEYOND);
        Due.due("what -1", x.of(0, -1), Due.BEYOND);
        Due.due("flyer 2", x.of(2, 0), Due.BEYOND);
        Due.due("flyer -1", x.of(-1, 0), Due.BEYOND);
        Due.due("largest", x.of(Integer.MAX_VALUE, Integer.MAX_VALUE), Due.BEYOND);
    }

    /** Promise 5. */
    private static void go() {
        KiteMeet x = new KiteMeet();
        x.flyer(0, 1234, 0, 1, 1, 0);
        Due.due("go", x.go(0, 9907), 1234);
        Due.due("x", x.of(0, 1), 99);
        Due.due("y", x.of(0, 2), 7);
        Due.due("go", x.go(0, 0), 9907);
        Due.due("place 10000", x.go(0, 10000), Due.BEYOND);
        Due.due("place -1", x.go(0, -1), Due.BEYOND);
        Due.due("flyer 1", x.go(1, 0), Due.BEYOND);
        Due.due("flyer -1", x.go(-1, 0), Due.BEYOND);
        Due.due("go", x.go(0, 9999), 0);
    }

    /** Promise 6. */
    private static void line() {
        KiteMeet x = new KiteMeet();
        x.flyer(0, 0, 0, 7, 1, 0);
        Due.due("line", x.line(0, 40), 7);
        Due.due("line", x.line(0, 1), 40);
        Due.due("line 0", x.line(0, 0), Due.BEYOND);
        Due.due("line 41", x.line(0, 41), Due.BEYOND);
        Due.due("flyer 1", x.line(1, 1), Due.BEYOND);
        Due.due("flyer -1", x.line(-1, 1), Due.BEYOND);
        Due.due("of", x.of(0, 4), 1);
    }

    /** Promise 7. */
    private static void wind() {
        KiteMeet x = new KiteMeet();
        Due.due("wind", x.wind(3, 19, 7, 12), 0);
        Due.due("force", x.windAt(3, 19, false), 12);
        Due.due("direction", x.windAt(3, 19, true), 7);
        Due.due("beside", x.windAt(3, 18, false), 0);
        Due.due("below", x.windAt(2, 19, false), 0);
        int[][] beyond = {
            {-1, 0, 0, 0}, {4, 0, 0, 0}, {0, -1, 0, 0}, {0, 20, 0, 0},
            {0, 0, -1, 0}, {0, 0, 8, 0}, {0, 0, 0, -1}, {0, 0, 0, 13},
        };
        for (int[] a : beyond) {
            Due.due("wind" + java.util.Arrays.toString(a),
                    x.wind(a[0], a[1], a[2], a[3]), Due.BEYOND);
        }
        Due.due("wind anew", x.wind(3, 19, 0, 0), 0);
        Due.due("force", x.windAt(3, 19, false), 0);
        Due.due("direction", x.windAt(3, 19, true), 0);
    }

    /** Promise 8. */
    private static void windAt() {
        KiteMeet x = new KiteMeet();
        x.wind(1, 2, 3, 4);
        Due.due("force", x.windAt(1, 2, false), 4);
        Due.due("direction", x.windAt(1, 2, true), 3);
        Due.due("height -1", x.windAt(-1, 2, true), Due.BEYOND);
        Due.due("height 4", x.windAt(4, 2, true), Due.BEYOND);
        Due.due("minute -1", x.windAt(1, -1, false), Due.BEYOND);
        Due.due("minute 20", x.windAt(1, 20, false), Due.BEYOND);
    }
}
