import java.util.Arrays;
import java.util.function.Consumer;

/** The bounds that the document names in promises 26 to 29: both sides of each. */
public final class SheetsBoundsTest {
    private static final int MAX = Integer.MAX_VALUE;
    private static final int MIN = Integer.MIN_VALUE;

    public static void main(String[] args) {
        sheetNumber();
        sheetBits();
        sheetSize();
        sheetOrderOfFindings();
        sheetIsAllZero();
        sheetMissing();
        putSheet();
        putMissing();
        putNumber();
        putLowestBits();
        copySheets();
        copyMissing();
        copyKind();
        copyNumbers();
        copyOrderOfFindings();
        copyBetweenAndWithin();
        gustsHeightMinuteSheet();
        gustsMissing();
        gustsBeyondTheLastMinute();
        gustsForces();
        gustsOrderOfFindings();
        gustsChangeForcesAlone();
        Due.end();
    }

    /** What gusts can see of a sheet of at most 20 numbers. */
    private static void dueNumbers(KiteMeet x, int s, int... numbers) {
        Due.due("how many", x.gusts(3, 0, s), numbers.length);
        for (int i = 0; i < numbers.length; i++) {
            Due.due("number " + i, x.windAt(3, i, false), numbers[i]);
        }
    }

    /** 'SHEETS 0 to 3'; 'BEYOND: no such sheet'. */
    private static void sheetNumber() {
        Bound.range("sheet", 0, 3, (x, v) -> x.sheet(v, 8, 1));
        Bound.range("missing sheet", 0, 3, (x, v) -> x.sheet(v, 0, 0));
    }

    /** 'of 8, 16 or 32 bits; bits 0: it is MISSING'; 'BEYOND: bits'. */
    private static void sheetBits() {
        for (int bits : new int[] {8, 16, 32}) {
            Bound.taken(bits + " bits", x -> x.sheet(0, bits, 3), 3);
            Bound.taken(bits + " bits of a missing one", x -> x.sheet(3, bits, 3), 3);
        }
        Bound.taken("0 bits", x -> x.sheet(0, 0, 0), 0);
        int[] beyond = {-1, 1, 7, 9, 12, 15, 17, 24, 31, 33, 64, -8, -16, -32, 256 + 8, MIN, MAX};
        for (int bits : beyond) {
            Bound.refused(bits + " bits", x -> x.sheet(0, bits, 3), Due.BEYOND);
        }
    }

    /** 'up to 40 numbers'; 'SIZE: n is below 0. BEYOND: n is above 40.' */
    private static void sheetSize() {
        for (int bits : new int[] {8, 16, 32}) {
            for (int n : new int[] {0, 1, 39, 40}) {
                Bound.taken(n + " numbers", x -> x.sheet(0, bits, n), n);
            }
            for (int n : new int[] {-1, -2, -40, MIN}) {
                Bound.refused(n + " numbers", x -> x.sheet(0, bits, n), Due.SIZE);
            }
            for (int n : new int[] {41, 42, 80, MAX}) {
                Bound.refused(n + " numbers", x -> x.sheet(0, bits, n), Due.BEYOND);
            }
        }
        Bound.refused("a missing one, -1 numbers", x -> x.sheet(0, 0, -1), Due.SIZE);
        Bound.refused("a missing one, 41 numbers", x -> x.sheet(0, 0, 41), Due.BEYOND);
    }

    /** BEYOND of the sheet and its bits is asked ahead of SIZE. */
    private static void sheetOrderOfFindings() {
        Bound.refused("sheet 4, n -1", x -> x.sheet(4, 8, -1), Due.BEYOND);
        Bound.refused("sheet -1, n -1", x -> x.sheet(-1, 8, -1), Due.BEYOND);
        Bound.refused("7 bits, n -1", x -> x.sheet(0, 7, -1), Due.BEYOND);
        Bound.refused("-8 bits, n -1", x -> x.sheet(3, -8, -1), Due.BEYOND);
    }

    /** 'A sheet has n numbers, all 0': whatever was there, fewer or more. */
    private static void sheetIsAllZero() {
        int[] sizes = {3, 20, 5, 0, 20};
        KiteMeet x = new KiteMeet();
        for (int n : sizes) {
            Due.due("sheet", x.sheet(0, 8, n), n);
            dueNumbers(x, 0, new int[n]);
            for (int i = 0; i < n; i++) {
                x.put(0, i, 12);
            }
            Due.due("no more than n", x.put(0, n, 12), Due.BEYOND);
        }
        x.sheet(1, 8, 1);
        x.sheet(0, 8, 40);
        for (int i = 0; i < 40; i++) {
            x.copy(0, i, 1, 0, 1);
            Due.due("number " + i + " of 40", x.gusts(0, 0, 1), 1);
            Due.due("number " + i + " of 40", x.windAt(0, 0, false), 0);
            x.put(0, i, 12);
        }
        x.sheet(0, 0, 0);
        x.sheet(0, 16, 2);
        dueNumbers(x, 0, 0, 0);
    }

    /** 'bits 0: it is MISSING: n (0)', for this one alone. */
    private static void sheetMissing() {
        for (int n : new int[] {0, 1, 40}) {
            Bound.taken("0 bits, n " + n, x -> x.sheet(0, 0, n), 0);
        }
        KiteMeet x = new KiteMeet();
        Bound.scene(x);
        x.sheet(0, 0, 3);
        Due.due("missing", x.put(0, 0, 0), Due.MISSING);
        Due.due("another is not", x.put(1, 0, 0), 0);
        Due.due("missing anew", x.sheet(0, 0, 0), 0);
        Due.due("there again", x.sheet(0, 8, 1), 1);
        Due.due("not missing", x.put(0, 0, 0), 0);
        x.sheet(0, 8, 0);
        Due.due("of no numbers, yet not missing", x.put(0, 0, 0), Due.BEYOND);
    }

    /** 'BEYOND: no such sheet.' */
    private static void putSheet() {
        Consumer<KiteMeet> all = x -> {
            for (int s = 0; s < 4; s++) {
                Bound.numbers(x, s, 8, s);
            }
        };
        Bound.rangeBehind("sheet", all, 0, 3, (x, v) -> x.put(v, 0, 9));
    }

    /** 'MISSING', ahead of which only the sheet's number is asked for. */
    private static void putMissing() {
        for (int i : new int[] {-1, 0, 40, MIN, MAX}) {
            Bound.refused("missing, number " + i, x -> x.put(3, i, 0), Due.MISSING);
            Bound.refused("no such sheet", x -> x.put(4, i, 0), Due.BEYOND);
            Bound.refused("no such sheet", x -> x.put(-1, i, 0), Due.BEYOND);
        }
    }

    /** 'BEYOND: no such number.' The numbers beside it stay. */
    private static void putNumber() {
        Bound.range("number of 3", 0, 2, (x, v) -> x.put(0, v, 9));
        Bound.range("number of 2", 0, 1, (x, v) -> x.put(1, v, 9));
        Bound.rangeBehind("number of 40", x -> x.sheet(0, 32, 40), 0, 39, (x, v) -> x.put(0, v, 9));
        for (int i : new int[] {-1, 0, 1}) {
            Bound.refusedBehind("of none", x -> x.sheet(0, 8, 0), x -> x.put(0, i, 9), Due.BEYOND);
        }
        for (int i = 0; i < 3; i++) {
            KiteMeet x = new KiteMeet();
            Bound.scene(x);
            x.put(0, i, 7);
            int[] want = {1, 2, 12};
            want[i] = 7;
            dueNumbers(x, 0, want);
        }
    }

    /** Number 0 of a sheet of so many bits as a force, or -1 if it is none. */
    private static int forceOf(int bits, int v) {
        KiteMeet x = new KiteMeet();
        x.sheet(0, bits, 1);
        Due.due("put", x.put(0, 0, v), 0);
        return x.gusts(0, 0, 0) == 1 ? x.windAt(0, 0, false) : -1;
    }

    /** 'becomes v (its lowest bits)': what is above 8, 16 or 32 bits goes, what is below stays. */
    private static void putLowestBits() {
        for (int v = 0; v <= 12; v++) {
            Due.due("8 bits, 1 above", forceOf(8, 256 + v), v);
            Due.due("8 bits, all above", forceOf(8, -256 + v), v);
            Due.due("8 bits, the top one", forceOf(8, MIN + v), v);
            Due.due("16 bits, 1 above", forceOf(16, 65536 + v), v);
            Due.due("16 bits, all above", forceOf(16, -65536 + v), v);
            Due.due("16 bits, the top one", forceOf(16, MIN + v), v);
            Due.due("32 bits", forceOf(32, v), v);
        }
        Due.due("8 bits keep 128", forceOf(8, 128), -1);
        Due.due("8 bits keep 255", forceOf(8, 255), -1);
        Due.due("8 bits of -1", forceOf(8, -1), -1);
        Due.due("8 bits lose 256", forceOf(8, 256), 0);
        Due.due("16 bits keep 256", forceOf(16, 256), -1);
        Due.due("16 bits keep 32768", forceOf(16, 32768), -1);
        Due.due("16 bits lose 65536", forceOf(16, 65536), 0);
        Due.due("32 bits keep 65536", forceOf(32, 65536), -1);
        Due.due("32 bits keep the top one", forceOf(32, MIN), -1);
        Due.due("32 bits keep all but the top one", forceOf(32, MAX), -1);
        for (int bits : new int[] {8, 16, 32}) {
            Due.due("13 is no force", forceOf(bits, 13), -1);
        }
    }

    private static void fourSheets(KiteMeet x) {
        Bound.numbers(x, 0, 8, 1, 2, 3);
        Bound.numbers(x, 1, 8, 4, 5);
        Bound.numbers(x, 2, 8, 6, 7, 8);
        Bound.numbers(x, 3, 8, 9);
    }

    /** 'BEYOND: no such sheet (either).' */
    private static void copySheets() {
        Consumer<KiteMeet> all = SheetsBoundsTest::fourSheets;
        Bound.rangeBehind("the first", all, 0, 3, (x, v) -> x.copy(v, 0, 1, 0, 1));
        Bound.rangeBehind("the second", all, 0, 3, (x, v) -> x.copy(1, 0, v, 0, 1));
        Bound.refusedBehind("neither", all, x -> x.copy(-1, 0, 4, 0, 1), Due.BEYOND);
    }

    /** 'MISSING: one is.' */
    private static void copyMissing() {
        Bound.refused("the first", x -> x.copy(3, 0, 0, 0, 0), Due.MISSING);
        Bound.refused("the second", x -> x.copy(0, 0, 3, 0, 0), Due.MISSING);
        Bound.refused("one and itself", x -> x.copy(3, 0, 3, 0, 0), Due.MISSING);
        Bound.refusedBehind("both", x -> { }, x -> x.copy(0, 0, 1, 0, 0), Due.MISSING);
        Bound.takenBehind("of no numbers is not missing", x -> x.sheet(0, 8, 0),
                x -> x.copy(0, 0, 0, 0, 0), 0);
    }

    /** 'KIND: they are not of as many bits.' */
    private static void copyKind() {
        for (int bits : new int[] {8, 16, 32}) {
            for (int other : new int[] {8, 16, 32}) {
                Consumer<KiteMeet> before = x -> {
                    Bound.numbers(x, 0, bits, 1, 2);
                    Bound.numbers(x, 1, other, 3, 4);
                };
                if (bits == other) {
                    Bound.takenBehind("as many bits", before, x -> x.copy(0, 0, 1, 0, 2), 2);
                } else {
                    Bound.refusedBehind("other bits", before, x -> x.copy(0, 0, 1, 0, 2), Due.KIND);
                    Bound.refusedBehind("none of others", before,
                            x -> x.copy(0, 0, 1, 0, 0), Due.KIND);
                }
            }
        }
    }

    /** 'BEYOND: one has not so many, or from, to or n is below 0.' Of 3 numbers to 2, and back. */
    private static void copyNumbers() {
        int[][] taken = {
            {0, 0, 2}, {1, 0, 2}, {2, 0, 1}, {2, 1, 1}, {3, 0, 0}, {0, 2, 0}, {3, 2, 0}, {0, 0, 0},
        };
        int[][] refused = {
            {2, 0, 2}, {3, 0, 1}, {4, 0, 0}, {0, 0, 3}, {0, 1, 2}, {0, 2, 1}, {0, 3, 0}, {4, 3, 0},
            {-1, 0, 1}, {-1, 0, 0}, {-1, 0, 2}, {0, -1, 1}, {0, -1, 0}, {0, -1, 2}, {0, 0, -1},
            {1, 1, -1}, {3, 2, -1}, {-1, -1, -1}, {MIN, 0, 1}, {0, MIN, 1}, {0, 0, MIN},
            {MAX, 0, 1}, {0, MAX, 1}, {0, 0, MAX}, {1, 1, MAX}, {MAX, MAX, MAX}, {MIN, MIN, MIN},
            {MAX, 0, MIN}, {MAX, 0, 0}, {0, MAX, 0}, {MIN, 0, 0}, {0, MIN, 0}, {2, 2, MAX - 1},
        };
        for (int[] a : taken) {
            String what = "copy " + Arrays.toString(a);
            Bound.takenBehind(what, SheetsBoundsTest::fourSheets,
                    x -> x.copy(0, a[0], 1, a[1], a[2]), a[2]);
            Bound.takenBehind(what + " the other way", SheetsBoundsTest::fourSheets,
                    x -> x.copy(1, a[1], 0, a[0], a[2]), a[2]);
        }
        for (int[] a : refused) {
            String what = "copy " + Arrays.toString(a);
            Bound.refusedBehind(what, SheetsBoundsTest::fourSheets,
                    x -> x.copy(0, a[0], 1, a[1], a[2]), Due.BEYOND);
            Bound.refusedBehind(what + " the other way", SheetsBoundsTest::fourSheets,
                    x -> x.copy(1, a[1], 0, a[0], a[2]), Due.BEYOND);
        }
        Bound.takenBehind("all 40", x -> {
            x.sheet(0, 16, 40);
            x.sheet(3, 16, 40);
        }, x -> x.copy(0, 0, 3, 0, 40), 40);
        Bound.refusedBehind("41", x -> {
            x.sheet(0, 16, 40);
            x.sheet(3, 16, 40);
        }, x -> x.copy(0, 0, 3, 0, 41), Due.BEYOND);
    }

    /** BEYOND of sheets, then MISSING, then KIND, then BEYOND of numbers. */
    private static void copyOrderOfFindings() {
        Bound.refused("no such first, second missing", x -> x.copy(4, 0, 3, 0, 0), Due.BEYOND);
        Bound.refused("first missing, no such second", x -> x.copy(3, 0, -1, 0, 0), Due.BEYOND);
        Bound.refused("first missing, n -1", x -> x.copy(3, 0, 0, 0, -1), Due.MISSING);
        Bound.refused("second missing, from -1", x -> x.copy(1, -1, 3, 0, 0), Due.MISSING);
        Bound.refused("other bits, n -1", x -> x.copy(0, 0, 1, 0, -1), Due.KIND);
        Bound.refused("other bits, from 9", x -> x.copy(0, 9, 1, 0, 1), Due.KIND);
        Bound.refused("other bits, to -1", x -> x.copy(1, 0, 2, -1, 1), Due.KIND);
    }

    /** 'n numbers of a sheet from one on come to another one from one on', or within one. */
    private static void copyBetweenAndWithin() {
        KiteMeet x = new KiteMeet();
        fourSheets(x);
        x.copy(0, 1, 1, 0, 2);
        dueNumbers(x, 1, 2, 3);
        dueNumbers(x, 0, 1, 2, 3);
        x.copy(0, 3, 1, 2, 0);
        dueNumbers(x, 1, 2, 3);
        x.copy(2, 2, 0, 2, 1);
        dueNumbers(x, 0, 1, 2, 8);
        x.copy(0, 0, 0, 1, 2);
        dueNumbers(x, 0, 1, 1, 2);
        x.copy(2, 1, 2, 0, 2);
        dueNumbers(x, 2, 7, 8, 8);
        x.copy(2, 0, 2, 0, 3);
        dueNumbers(x, 2, 7, 8, 8);
        dueNumbers(x, 3, 9);
    }

    /** 'BEYOND: no such HEIGHT, MINUTE, or sheet.' */
    private static void gustsHeightMinuteSheet() {
        Consumer<KiteMeet> all = x -> {
            for (int s = 0; s < 4; s++) {
                Bound.numbers(x, s, 8, 12);
            }
        };
        Bound.rangeBehind("height", all, 0, 3, (x, v) -> x.gusts(v, 19, 0));
        Bound.rangeBehind("minute", all, 0, 19, (x, v) -> x.gusts(3, v, 0));
        Bound.rangeBehind("minute of height 0", all, 0, 19, (x, v) -> x.gusts(0, v, 0));
        Bound.rangeBehind("sheet", all, 0, 3, (x, v) -> x.gusts(0, 0, v));
        Bound.refusedBehind("minute 20 of no numbers", x -> x.sheet(0, 8, 0),
                x -> x.gusts(0, 20, 0), Due.BEYOND);
    }

    /** 'MISSING.' A sheet of no numbers is not. */
    private static void gustsMissing() {
        Bound.refused("missing", x -> x.gusts(0, 0, 3), Due.MISSING);
        Bound.refused("missing", x -> x.gusts(3, 19, 3), Due.MISSING);
        for (int minute : new int[] {0, 19}) {
            Bound.takenBehind("no numbers", x -> x.sheet(3, 32, 0), x -> x.gusts(0, minute, 3), 0);
        }
    }

    /** 'SIZE: they go beyond MINUTE 19.' */
    private static void gustsBeyondTheLastMinute() {
        for (int n : new int[] {1, 2, 3, 19, 20}) {
            Consumer<KiteMeet> before = x -> x.sheet(0, 8, n);
            Bound.takenBehind(n + " numbers", before, x -> x.gusts(3, 20 - n, 0), n);
            if (n > 1) {
                Bound.refusedBehind(n + " numbers", before, x -> x.gusts(3, 21 - n, 0), Due.SIZE);
                Bound.refusedBehind(n + " numbers", before, x -> x.gusts(0, 19, 0), Due.SIZE);
            }
        }
        for (int n : new int[] {21, 22, 40}) {
            Bound.refusedBehind(n + " numbers", x -> x.sheet(0, 8, n),
                    x -> x.gusts(0, 0, 0), Due.SIZE);
        }
    }

    /** 'BEYOND: one is not 0 to 12', wherever it stands. */
    private static void gustsForces() {
        for (int i = 0; i < 4; i++) {
            int number = i;
            for (int v : new int[] {0, 12}) {
                Bound.takenBehind("force " + v, x -> {
                    x.sheet(0, 32, 4);
                    x.put(0, number, v);
                }, x -> x.gusts(1, 16, 0), 4);
            }
            for (int v : new int[] {-1, 13, 14, 255, 256, MIN, MAX}) {
                Bound.refusedBehind("force " + v, x -> {
                    Bound.scene(x);
                    Bound.numbers(x, 0, 32, 1, 2, 3, 4);
                    x.put(0, number, v);
                }, x -> x.gusts(1, 16, 0), Due.BEYOND);
            }
        }
    }

    /** BEYOND of height, minute and sheet, then MISSING, then SIZE, then BEYOND of numbers. */
    private static void gustsOrderOfFindings() {
        Bound.refused("height ahead of MISSING", x -> x.gusts(4, 0, 3), Due.BEYOND);
        Bound.refused("minute ahead of MISSING", x -> x.gusts(0, 20, 3), Due.BEYOND);
        Bound.refused("minute ahead of SIZE", x -> x.gusts(0, 20, 0), Due.BEYOND);
        Bound.refused("height ahead of SIZE", x -> x.gusts(-1, 19, 0), Due.BEYOND);
        Bound.refused("SIZE ahead of a number 13", x -> x.gusts(0, 19, 1), Due.SIZE);
        Bound.refused("a number 13", x -> x.gusts(0, 18, 1), Due.BEYOND);
    }

    /** 'FORCES of a HEIGHT from a MINUTE on': no direction, and no minute or height beside them. */
    private static void gustsChangeForcesAlone() {
        int[][] places = {{0, 0}, {1, 17}, {2, 5}, {3, 17}};
        for (int[] p : places) {
            KiteMeet x = new KiteMeet();
            x.wind(p[0], p[1], 7, 9);
            x.wind(p[0], p[1] + 1, 5, 9);
            Bound.numbers(x, 2, 16, 12, 0, 7);
            Due.due("how many", x.gusts(p[0], p[1], 2), 3);
            int first = 20 * p[0] + p[1];
            for (int i = 0; i < 80; i++) {
                int force = i == first ? 12 : i == first + 2 ? 7 : 0;
                int direction = i == first ? 7 : i == first + 1 ? 5 : 0;
                Due.due("force at " + i, x.windAt(i / 20, i % 20, false), force);
                Due.due("direction at " + i, x.windAt(i / 20, i % 20, true), direction);
            }
        }
    }
}
