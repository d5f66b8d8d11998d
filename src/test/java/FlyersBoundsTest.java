import java.util.function.Consumer;

/** The bounds that the document names in promises 1 to 8: both sides of each. */
public final class FlyersBoundsTest {
    public static void main(String[] args) {
        newObject();
        newObjectIsItsOwn();
        flyerKind();
        flyerPlace();
        flyerHeight();
        flyerLine();
        flyerSpan();
        flyerLeast();
        flyerMost();
        flyerLeastAboveMost();
        flyerEightAtMost();
        flyerOrderOfFindings();
        flyerNumbersAreTaken();
        asFlyer();
        asKind();
        asNotOfThatKind();
        of();
        go();
        line();
        wind();
        windChangesOneAlone();
        windAt();
        Due.end();
    }

    /** 'No FLYERS, no WINDS, a ROW of 3 as told; sheets MISSING.' */
    private static void newObject() {
        Consumer<KiteMeet> none = x -> { };
        for (int f = 0; f < 8; f++) {
            int flyer = f;
            Bound.refusedBehind("no flyer " + f, none, x -> x.of(flyer, 0), Due.BEYOND);
        }
        for (int s = 0; s < 4; s++) {
            int sheet = s;
            Bound.refusedBehind("put", none, x -> x.put(sheet, 0, 0), Due.MISSING);
            Bound.refusedBehind("copy", none, x -> x.copy(sheet, 0, sheet, 0, 0), Due.MISSING);
        }
        KiteMeet x = new KiteMeet();
        Due.due("three in the row", x.at(2), 2);
        Due.due("no fourth", x.at(3), Due.BEYOND);
        for (int k = 0; k < 3; k++) {
            Due.due("twist", x.twist(k, (k + 1) % 3), 0);
            Due.due("sharpness", x.sharp(k, 0), 0);
        }
        Due.due("no fourth line", x.sharp(3, 0), Due.BEYOND);
        Due.due("findings", x.all(4), 2);
    }

    /** What is done to one object is not seen in another, nor in one made later. */
    private static void newObjectIsItsOwn() {
        KiteMeet made = new KiteMeet();
        KiteMeet used = new KiteMeet();
        Bound.scene(used);
        used.all(5);
        for (KiteMeet x : new KiteMeet[] {made, new KiteMeet()}) {
            Due.due("flyers", x.all(0), 0);
            Due.due("row", x.all(1), 3);
            Due.due("walks", x.all(2), 0);
            Due.due("untangled", x.all(3), 1);
            Due.due("findings", x.all(4), 0);
            Due.due("force", x.windAt(0, 0, false), 0);
            Due.due("sheet", x.put(0, 0, 0), Due.MISSING);
            Due.due("undo", x.undo(), Due.NONE);
        }
    }

    /** 'BEYOND: kind'. */
    private static void flyerKind() {
        Bound.range("kind", 0, 3, (x, v) -> x.flyer(v, 0, 0, 1, 1, 12));
    }

    /** 'BEYOND: place (100 times x, and y)'; 'x, y (0 to 99 both)'. */
    private static void flyerPlace() {
        Bound.range("place", 0, 9999, (x, v) -> x.flyer(0, v, 0, 1, 1, 12));
        int[][] places = {{0, 0, 0}, {99, 0, 99}, {100, 1, 0}, {9899, 98, 99}, {9900, 99, 0}};
        for (int[] p : places) {
            KiteMeet x = new KiteMeet();
            x.flyer(0, p[0], 0, 1, 1, 12);
            Due.due("x of " + p[0], x.of(0, 1), p[1]);
            Due.due("y of " + p[0], x.of(0, 2), p[2]);
        }
    }

    /** 'BEYOND: HEIGHT'. */
    private static void flyerHeight() {
        Bound.range("height", 0, 3, (x, v) -> x.flyer(0, 0, v, 1, 1, 12));
    }

    /** 'BEYOND: LINE'. */
    private static void flyerLine() {
        Bound.range("line", 1, 40, (x, v) -> x.flyer(0, 0, 0, v, 1, 12));
    }

    /** 'BEYOND: SPAN'. */
    private static void flyerSpan() {
        Bound.range("span", 1, 9, (x, v) -> x.flyer(0, 0, 0, 1, v, 12));
    }

    /** 'BEYOND: LEAST' (forces is 16 times LEAST, and MOST). */
    private static void flyerLeast() {
        Bound.taken("least 0", x -> x.flyer(0, 0, 0, 1, 1, 12), 4);
        Bound.taken("least 12", x -> x.flyer(0, 0, 0, 1, 1, 16 * 12 + 12), 4);
        int[] beyond = {-1, 13, 14, 16, 17, 256, 1 << 20, -(1 << 20)};
        for (int least : beyond) {
            refusedForces(16 * least + 12);
            refusedForces(16 * least);
        }
        refusedForces(Integer.MIN_VALUE);
        refusedForces(Integer.MIN_VALUE + 12);
        refusedForces(Integer.MAX_VALUE);
        refusedForces(Integer.MAX_VALUE - 3);
    }

    /** 'BEYOND: MOST', with the least LEAST and with the most. */
    private static void flyerMost() {
        Bound.taken("most 0", x -> x.flyer(0, 0, 0, 1, 1, 0), 4);
        for (int most = 13; most < 16; most++) {
            refusedForces(most);
            refusedForces(16 * 5 + most);
            refusedForces(16 * 12 + most);
        }
        for (int forces = -1; forces >= -16; forces--) {
            refusedForces(forces);
        }
    }

    private static void refusedForces(int forces) {
        Bound.refused("forces " + forces, x -> x.flyer(0, 0, 0, 1, 1, forces), Due.BEYOND);
    }

    /** 'SIZE: LEAST is above MOST.' */
    private static void flyerLeastAboveMost() {
        for (int most = 0; most <= 12; most++) {
            int equal = 17 * most;
            Bound.taken("least is most", x -> x.flyer(0, 0, 0, 1, 1, equal), 4);
            for (int least = most + 1; least <= 12; least++) {
                int forces = 16 * least + most;
                Bound.refused("forces " + forces, x -> x.flyer(0, 0, 0, 1, 1, forces), Due.SIZE);
            }
        }
    }

    private static void eight(KiteMeet x) {
        Bound.scene(x);
        for (int f = 4; f < 8; f++) {
            x.flyer(0, f, 0, f, f, f);
        }
    }

    /** 'FULL: there are 8.' */
    private static void flyerEightAtMost() {
        Consumer<KiteMeet> seven = x -> {
            eight(x);
            x.undo();
        };
        Bound.takenBehind("the eighth", seven, x -> x.flyer(3, 9999, 3, 40, 9, 204), 7);
        Bound.refusedBehind("a ninth", FlyersBoundsTest::eight,
                x -> x.flyer(3, 9999, 3, 40, 9, 204), Due.FULL);
        KiteMeet x = new KiteMeet();
        for (int f = 0; f < 8; f++) {
            Due.due("number", x.flyer(0, 0, 0, 1, 1, 12), f);
            Due.due("flyers", x.all(0), f + 1);
        }
    }

    /** BEYOND is asked first, of every number; then SIZE, then FULL. */
    private static void flyerOrderOfFindings() {
        int[][] beyond = {
            {4, 0, 0, 1, 1}, {0, 10000, 0, 1, 1}, {0, 0, 4, 1, 1},
            {0, 0, 0, 0, 1}, {0, 0, 0, 1, 10},
        };
        for (int[] a : beyond) {
            Bound.refused("BEYOND ahead of SIZE",
                    x -> x.flyer(a[0], a[1], a[2], a[3], a[4], 16), Due.BEYOND);
            Bound.refusedBehind("BEYOND ahead of FULL", FlyersBoundsTest::eight,
                    x -> x.flyer(a[0], a[1], a[2], a[3], a[4], 12), Due.BEYOND);
        }
        Bound.refused("LEAST 13 is above MOST 0", x -> x.flyer(0, 0, 0, 1, 1, 208), Due.BEYOND);
        Bound.refusedBehind("MOST 13 of a ninth", FlyersBoundsTest::eight,
                x -> x.flyer(0, 0, 0, 1, 1, 13), Due.BEYOND);
        Bound.refusedBehind("SIZE ahead of FULL", FlyersBoundsTest::eight,
                x -> x.flyer(0, 0, 0, 1, 1, 16), Due.SIZE);
    }

    /** What a new flyer has, at each end. */
    private static void flyerNumbersAreTaken() {
        int[][] told = {{0, 0, 0, 0, 1, 1, 0, 0}, {3, 99, 99, 3, 40, 9, 12, 12}};
        for (int[] t : told) {
            KiteMeet x = new KiteMeet();
            Bound.scene(x);
            x.flyer(t[0], 100 * t[1] + t[2], t[3], t[4], t[5], 16 * t[6] + t[7]);
            for (int what = 0; what < 8; what++) {
                Due.due("of " + what, x.of(4, what), t[what]);
            }
        }
    }

    /** 'BEYOND: no such FLYER'. */
    private static void asFlyer() {
        Bound.range("flyer", 0, 3, (x, v) -> x.as(v, 0));
        Bound.refusedBehind("of none", x -> { }, x -> x.as(0, 0), Due.BEYOND);
    }

    /** 'BEYOND: kind'. */
    private static void asKind() {
        Bound.range("kind", 0, 3, (x, v) -> x.as(3, v));
        Bound.refused("neither", x -> x.as(4, 4), Due.BEYOND);
    }

    /** 'KIND: its KITE is not of that kind, nor of one under it.' */
    private static void asNotOfThatKind() {
        int[][] is = {{0, 0}, {1, 0}, {1, 1}, {2, 0}, {2, 2}, {3, 0}, {3, 1}, {3, 3}};
        int[][] isNot = {{0, 1}, {0, 2}, {0, 3}, {1, 2}, {1, 3}, {2, 1}, {2, 3}, {3, 2}};
        for (int[] a : is) {
            Bound.taken("as " + a[0] + " " + a[1], x -> x.as(a[0], a[1]), a[0]);
        }
        for (int[] a : isNot) {
            Bound.refused("as " + a[0] + " " + a[1], x -> x.as(a[0], a[1]), Due.KIND);
        }
    }

    /** 'BEYOND: no such FLYER, or another what.' */
    private static void of() {
        Bound.range("flyer", 0, 3, (x, v) -> x.of(v, 0));
        Bound.range("flyer", 0, 3, (x, v) -> x.of(v, 7));
        Bound.range("what of the first", 0, 7, (x, v) -> x.of(0, v));
        Bound.range("what of the last", 0, 7, (x, v) -> x.of(3, v));
    }

    /** 'BEYOND': no such flyer, or place. */
    private static void go() {
        Bound.range("flyer", 0, 3, (x, v) -> x.go(v, 0));
        Bound.range("place", 0, 9999, (x, v) -> x.go(0, v));
        Bound.range("place of the last", 0, 9999, (x, v) -> x.go(3, v));
        KiteMeet x = new KiteMeet();
        Bound.scene(x);
        int[] places = {9999, 0, 99, 100, 9900, 4321};
        int was = 4321;
        for (int place : places) {
            Due.due("from " + was, x.go(0, place), was);
            Due.due("x", x.of(0, 1), place / 100);
            Due.due("y", x.of(0, 2), place % 100);
            Due.due("another's x", x.of(1, 1), 50);
            was = place;
        }
        Due.due("to where it was", x.go(0, 4321), 4321);
    }

    /** 'BEYOND': no such flyer, or LINE. */
    private static void line() {
        Bound.range("flyer", 0, 3, (x, v) -> x.line(v, 1));
        Bound.range("line", 1, 40, (x, v) -> x.line(0, v));
        Bound.range("line of the last", 1, 40, (x, v) -> x.line(3, v));
        KiteMeet x = new KiteMeet();
        Bound.scene(x);
        Due.due("was 12", x.line(0, 40), 12);
        Due.due("is 40", x.of(0, 4), 40);
        Due.due("was 40", x.line(0, 1), 40);
        Due.due("is 1", x.of(0, 4), 1);
        Due.due("as it is", x.line(0, 1), 1);
        Due.due("another's", x.of(1, 4), 20);
    }

    /** 'BEYOND: no such HEIGHT, MINUTE, DIRECTION, or FORCE.' */
    private static void wind() {
        Bound.range("height", 0, 3, (x, v) -> x.wind(v, 19, 7, 12));
        Bound.range("minute", 0, 19, (x, v) -> x.wind(3, v, 7, 12));
        Bound.range("minute of height 0", 0, 19, (x, v) -> x.wind(0, v, 7, 12));
        Bound.range("direction", 0, 7, (x, v) -> x.wind(3, 19, v, 12));
        Bound.range("force", 0, 12, (x, v) -> x.wind(3, 19, 7, v));
    }

    /** A wind is of its height and minute alone, at the corners too. */
    private static void windChangesOneAlone() {
        int[][] corners = {{0, 0}, {0, 19}, {1, 0}, {2, 19}, {3, 0}, {3, 19}};
        for (int[] c : corners) {
            KiteMeet x = new KiteMeet();
            x.wind(c[0], c[1], 7, 12);
            for (int i = 0; i < 80; i++) {
                boolean here = i == 20 * c[0] + c[1];
                String where = "wind " + c[0] + " " + c[1] + " at " + i / 20 + " " + i % 20;
                Due.due(where, x.windAt(i / 20, i % 20, false), here ? 12 : 0);
                Due.due(where, x.windAt(i / 20, i % 20, true), here ? 7 : 0);
            }
        }
    }

    /** 'BEYOND': no such height, or minute. */
    private static void windAt() {
        for (boolean direction : new boolean[] {false, true}) {
            Bound.range("height", 0, 3, (x, v) -> x.windAt(v, 0, direction));
            Bound.range("height", 0, 3, (x, v) -> x.windAt(v, 19, direction));
            Bound.range("minute", 0, 19, (x, v) -> x.windAt(0, v, direction));
            Bound.range("minute", 0, 19, (x, v) -> x.windAt(3, v, direction));
        }
    }
}
