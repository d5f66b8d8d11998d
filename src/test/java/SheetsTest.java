/** Promises 26 to 29: sheets and gusts. */
public final class SheetsTest {
    public static void main(String[] args) {
        sheet();
        put();
        putTakesLowestBits();
        copy();
        copyWithinOne();
        copyFindings();
        gusts();
        gustsFindings();
        Due.end();
    }

    /** The first number of a sheet, as a force; -1 if it is none. */
    private static int firstForce(KiteMeet x, int s) {
        int answer = x.gusts(0, 0, s);
        return answer > 0 ? x.windAt(0, 0, false) : -1;
    }

    /** Promise 26. */
    private static void sheet() {
        KiteMeet x = new KiteMeet();
        int[] bits = {8, 16, 32};
        for (int b : bits) {
            Due.due("40 numbers", x.sheet(0, b, 40), 40);
            Due.due("the last", x.put(0, 39, 1), 0);
            Due.due("none behind it", x.put(0, 40, 1), Due.BEYOND);
            Due.due("no numbers", x.sheet(0, b, 0), 0);
            Due.due("not even one", x.put(0, 0, 1), Due.BEYOND);
        }
        x.sheet(3, 8, 1);
        x.put(3, 0, 5);
        x.sheet(3, 8, 2);
        Due.due("all 0 anew", x.gusts(1, 0, 3), 2);
        Due.due("all 0 anew", x.windAt(1, 0, false), 0);
        Due.due("missing", x.sheet(3, 0, 0), 0);
        Due.due("missing", x.put(3, 0, 0), Due.MISSING);
        x.sheet(3, 8, 2);
        Due.due("missing has no numbers", x.sheet(3, 0, 5), 0);
        Due.due("missing", x.gusts(0, 0, 3), Due.MISSING);
        Due.due("sheet 4", x.sheet(4, 8, 1), Due.BEYOND);
        Due.due("sheet -1", x.sheet(-1, 8, 1), Due.BEYOND);
        Due.due("7 bits", x.sheet(3, 7, 1), Due.BEYOND);
        Due.due("64 bits", x.sheet(3, 64, 1), Due.BEYOND);
        Due.due("-8 bits", x.sheet(3, -8, 1), Due.BEYOND);
        Due.due("24 bits", x.sheet(3, 24, -1), Due.BEYOND);
        Due.due("n -1", x.sheet(3, 8, -1), Due.SIZE);
        Due.due("n 41", x.sheet(3, 8, 41), Due.BEYOND);
        Due.due("largest n", x.sheet(3, 32, Integer.MAX_VALUE), Due.BEYOND);
        Due.due("least n", x.sheet(3, 32, Integer.MIN_VALUE), Due.SIZE);
        Due.due("missing, n -1", x.sheet(3, 0, -1), Due.SIZE);
        Due.due("missing, n 41", x.sheet(3, 0, 41), Due.BEYOND);
        Due.due("still missing", x.put(3, 0, 0), Due.MISSING);
        x.sheet(2, 16, 1);
        x.put(2, 0, 9);
        x.sheet(2, 16, -1);
        x.sheet(2, 16, 41);
        Due.due("findings change nothing", firstForce(x, 2), 9);
    }

    /** Promise 27. */
    private static void put() {
        KiteMeet x = new KiteMeet();
        x.sheet(0, 8, 3);
        Due.due("put", x.put(0, 0, 7), 0);
        Due.due("put", x.put(0, 2, 12), 0);
        x.gusts(2, 5, 0);
        Due.due("first", x.windAt(2, 5, false), 7);
        Due.due("second", x.windAt(2, 6, false), 0);
        Due.due("third", x.windAt(2, 7, false), 12);
        Due.due("number 3", x.put(0, 3, 1), Due.BEYOND);
        Due.due("number -1", x.put(0, -1, 1), Due.BEYOND);
        Due.due("sheet 1", x.put(1, -1, 1), Due.MISSING);
        Due.due("sheet 4", x.put(4, 0, 1), Due.BEYOND);
        Due.due("sheet -1", x.put(-1, 0, 1), Due.BEYOND);
    }

    private static void putTakesLowestBits() {
        KiteMeet x = new KiteMeet();
        int[] bits = {8, 16, 32};
        int[] numbers = {3, 256 + 3, 65536 + 3, (1 << 31) + 3, -253, -65533, 255, -1, 128, 32768};
        int[][] want = {
            {3, 3, 3, 3, 3, 3, -1, -1, -1, 0},
            {3, -1, 3, 3, -1, 3, -1, -1, -1, -1},
            {3, -1, -1, -1, -1, -1, -1, -1, -1, -1},
        };
        for (int b = 0; b < 3; b++) {
            x.sheet(b, bits[b], 1);
            for (int i = 0; i < numbers.length; i++) {
                x.put(b, 0, numbers[i]);
                Due.due(bits[b] + " bits of " + numbers[i], firstForce(x, b), want[b][i]);
            }
        }
    }

    private static void tell(KiteMeet x, int s, int bits, int... numbers) {
        x.sheet(s, bits, numbers.length);
        for (int i = 0; i < numbers.length; i++) {
            x.put(s, i, numbers[i]);
        }
    }

    private static void dueNumbers(KiteMeet x, int s, int... numbers) {
        Due.due("how many", x.gusts(3, 0, s), numbers.length);
        for (int i = 0; i < numbers.length; i++) {
            Due.due("number " + i, x.windAt(3, i, false), numbers[i]);
        }
    }

    /** Promise 28. */
    private static void copy() {
        KiteMeet x = new KiteMeet();
        tell(x, 0, 16, 1, 2, 3, 4);
        tell(x, 1, 16, 5, 6, 7);
        Due.due("copy", x.copy(0, 2, 1, 0, 2), 2);
        dueNumbers(x, 1, 3, 4, 7);
        dueNumbers(x, 0, 1, 2, 3, 4);
        Due.due("none, at the ends", x.copy(0, 4, 1, 3, 0), 0);
        Due.due("all", x.copy(1, 0, 0, 1, 3), 3);
        dueNumbers(x, 0, 1, 3, 4, 7);
        Due.due("no act to undo but gusts", x.undo(), 2);
    }

    private static void copyWithinOne() {
        KiteMeet x = new KiteMeet();
        tell(x, 0, 8, 1, 2, 3, 4, 5);
        Due.due("on", x.copy(0, 0, 0, 1, 4), 4);
        dueNumbers(x, 0, 1, 1, 2, 3, 4);
        Due.due("back", x.copy(0, 2, 0, 0, 3), 3);
        dueNumbers(x, 0, 2, 3, 4, 3, 4);
    }

    private static void copyFindings() {
        KiteMeet x = new KiteMeet();
        tell(x, 0, 8, 1, 2, 3);
        tell(x, 1, 8, 4, 5);
        tell(x, 2, 16, 4, 5);
        Due.due("sheet -1", x.copy(-1, 0, 0, 0, 0), Due.BEYOND);
        Due.due("sheet 4", x.copy(0, 0, 4, 0, 0), Due.BEYOND);
        Due.due("BEYOND is asked ahead of MISSING", x.copy(3, 0, 4, 0, 0), Due.BEYOND);
        Due.due("the first is missing", x.copy(3, 0, 0, 0, 0), Due.MISSING);
        Due.due("the second is missing", x.copy(0, 0, 3, 0, 0), Due.MISSING);
        Due.due("other bits", x.copy(0, 0, 2, 0, -1), Due.KIND);
        Due.due("from -1", x.copy(0, -1, 1, 0, 1), Due.BEYOND);
        Due.due("to -1", x.copy(0, 0, 1, -1, 1), Due.BEYOND);
        Due.due("n -1", x.copy(0, 1, 1, 1, -1), Due.BEYOND);
        Due.due("n 3 of 2", x.copy(0, 0, 1, 0, 3), Due.BEYOND);
        Due.due("n 3 from 1 of 3", x.copy(0, 1, 0, 0, 3), Due.BEYOND);
        Due.due("to 3 of 2", x.copy(0, 0, 1, 3, 0), Due.BEYOND);
        Due.due("from 4 of 3", x.copy(0, 4, 1, 0, 0), Due.BEYOND);
        int max = Integer.MAX_VALUE;
        Due.due("largest from", x.copy(0, max, 1, 0, 1), Due.BEYOND);
        Due.due("largest to", x.copy(0, 0, 1, max, 1), Due.BEYOND);
        Due.due("largest n", x.copy(0, 1, 1, 1, max), Due.BEYOND);
        Due.due("all largest", x.copy(0, max, 1, max, max), Due.BEYOND);
        Due.due("all least", x.copy(0, -max - 1, 1, -max - 1, -max - 1), Due.BEYOND);
        dueNumbers(x, 0, 1, 2, 3);
        dueNumbers(x, 1, 4, 5);
    }

    /** Promise 29. */
    private static void gusts() {
        KiteMeet x = new KiteMeet();
        x.wind(2, 17, 5, 1);
        x.wind(2, 16, 3, 11);
        tell(x, 0, 32, 0, 12, 7);
        Due.due("gusts", x.gusts(2, 17, 0), 3);
        Due.due("ahead", x.windAt(2, 16, false), 11);
        Due.due("17", x.windAt(2, 17, false), 0);
        Due.due("18", x.windAt(2, 18, false), 12);
        Due.due("19", x.windAt(2, 19, false), 7);
        Due.due("direction stays", x.windAt(2, 17, true), 5);
        Due.due("another height", x.windAt(1, 18, false), 0);
        x.sheet(1, 8, 20);
        Due.due("all minutes", x.gusts(2, 0, 1), 20);
        Due.due("all 0", x.windAt(2, 19, false), 0);
        x.sheet(1, 8, 0);
        Due.due("none", x.gusts(2, 19, 1), 0);
        Due.due("an act all the same", x.undo(), 4);
        x.wind(0, 4, 1, 6);
        tell(x, 0, 8, 1, 2, 3);
        Due.due("1, 2 and 3", x.gusts(0, 1, 0), 3);
        Due.due("3", x.windAt(0, 3, false), 3);
        Due.due("behind them", x.windAt(0, 4, false), 6);
        Due.due("put shorter", x.sheet(0, 8, 2), 2);
        Due.due("the two alone", x.gusts(0, 1, 0), 2);
        Due.due("behind them", x.windAt(0, 3, false), 3);
    }

    private static void gustsFindings() {
        KiteMeet x = new KiteMeet();
        tell(x, 0, 16, 4, 13, 4);
        Due.due("height -1", x.gusts(-1, 0, 0), Due.BEYOND);
        Due.due("height 4", x.gusts(4, 0, 0), Due.BEYOND);
        Due.due("minute -1", x.gusts(0, -1, 0), Due.BEYOND);
        Due.due("minute 20", x.gusts(0, 20, 0), Due.BEYOND);
        Due.due("sheet -1", x.gusts(0, 0, -1), Due.BEYOND);
        Due.due("sheet 4", x.gusts(0, 0, 4), Due.BEYOND);
        Due.due("missing", x.gusts(0, 0, 1), Due.MISSING);
        Due.due("BEYOND is asked ahead of MISSING", x.gusts(0, 20, 1), Due.BEYOND);
        Due.due("SIZE is asked ahead of the numbers", x.gusts(0, 18, 0), Due.SIZE);
        Due.due("13", x.gusts(0, 17, 0), Due.BEYOND);
        x.put(0, 1, -1);
        Due.due("-1", x.gusts(0, 17, 0), Due.BEYOND);
        Due.due("nothing changed", x.windAt(0, 17, false), 0);
        x.sheet(1, 8, 21);
        Due.due("21 minutes", x.gusts(0, 0, 1), Due.SIZE);
        Due.due("no act to undo", x.undo(), Due.NONE);
    }
}
