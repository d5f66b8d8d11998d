/** Promises 15 to 22: the row, walks and words. */
public final class RowTest {
    public static void main(String[] args) {
        row();
        walkInFront();
        walkBehind();
        walkFindings();
        wordsOfUpTo60Letters();
        at();
        letter();
        tangle();
        twist();
        fewest();
        fewestTakesTheFirst();
        fewestAsksNoWear();
        same();
        sameFindings();
        Due.end();
    }

    /** The word of a place, with a blank between letters. */
    private static String word(KiteMeet x, int place) {
        StringBuilder told = new StringBuilder();
        for (int i = 0; i < x.letter(place, -1); i++) {
            told.append(i == 0 ? "" : " ").append(x.letter(place, i));
        }
        return told.toString();
    }

    private static void dueWord(KiteMeet x, int place, String want) {
        Due.holds("word of " + place + " is " + word(x, place) + ", due is " + want,
                want.equals(word(x, place)));
    }

    /** Promise 15. */
    private static void row() {
        KiteMeet x = new KiteMeet();
        x.sharp(0, 9);
        x.sharp(2, 4);
        x.walk(0, true);
        x.walk(1, true);
        x.walk(0, true);
        Due.due("walks", x.row(5), 3);
        Due.due("size", x.all(1), 5);
        Due.due("walks anew", x.all(2), 0);
        for (int k = 0; k < 5; k++) {
            Due.due("at", x.at(k), k);
            dueWord(x, k, String.valueOf(k));
            Due.due("wear", x.wear(k), 0);
            Due.due("sharpness", x.sharp(k, 0), 0);
            for (int o = 0; o < k; o++) {
                Due.due("twist", x.twist(k, o), 0);
            }
        }
        Due.due("walk", x.walk(3, false), 2);
        Due.due("walk that can't be", x.walk(4, false), Due.BEYOND);
        Due.due("only walks that were done count", x.row(2), 1);
        Due.due("none", x.row(2), 0);
        Due.due("1", x.row(1), Due.BEYOND);
        Due.due("6", x.row(6), Due.BEYOND);
        Due.due("-1", x.row(-1), Due.BEYOND);
        Due.due("size is as it was", x.all(1), 2);
    }

    /** Promise 16. */
    private static void walkInFront() {
        KiteMeet x = new KiteMeet();
        Due.due("walk", x.walk(0, true), 2);
        dueWord(x, 0, "0 1 10");
        dueWord(x, 1, "0");
        dueWord(x, 2, "2");
        Due.due("walk", x.walk(1, true), 4);
        dueWord(x, 0, "0 1 10");
        dueWord(x, 1, "0 2 10");
        dueWord(x, 2, "0");
        Due.due("walk", x.walk(0, true), 6);
        dueWord(x, 0, "0 1 2 11 10");
        dueWord(x, 1, "0 1 10");
        dueWord(x, 2, "0");
        Due.due("and back", x.walk(0, false), 4);
        Due.due("and back", x.walk(1, false), 2);
        Due.due("and back", x.walk(0, false), 0);
        Due.due("untangled", x.all(3), 1);
        Due.due("walks", x.all(2), 6);
    }

    private static void walkBehind() {
        KiteMeet x = new KiteMeet();
        Due.due("walk", x.walk(0, false), 2);
        dueWord(x, 0, "1");
        dueWord(x, 1, "11 0 1");
        Due.due("walk", x.walk(0, false), 6);
        dueWord(x, 0, "11 0 1");
        dueWord(x, 1, "11 10 1 0 1");
        Due.due("tangled", x.all(3), 0);
        Due.due("each in its place, and tangled", x.at(0) * 10 + x.at(1), 1);
    }

    private static void walkFindings() {
        KiteMeet x = new KiteMeet();
        Due.due("place -1", x.walk(-1, true), Due.BEYOND);
        Due.due("place 2 of 3", x.walk(2, true), Due.BEYOND);
        x.row(2);
        Due.due("place 1 of 2", x.walk(1, false), Due.BEYOND);
        x.row(5);
        Due.due("place 3 of 5", x.walk(3, false), 2);
        Due.due("largest", x.walk(Integer.MAX_VALUE, false), Due.BEYOND);
        x.row(3);
        x.sharp(0, 9);
        x.walk(0, true);
        x.walk(0, true);
        x.walk(0, true);
        Due.due("a lost one", x.walk(0, true), Due.LOST);
        Due.due("BEYOND is asked ahead of LOST", x.walk(3, true), Due.BEYOND);
        Due.due("findings are no walks", x.all(2), 3);
    }

    /** Two who wind about one another: words of 2k - 1 and 2k + 1 letters, up to 59. */
    private static void wordsOfUpTo60Letters() {
        KiteMeet x = new KiteMeet();
        x.row(2);
        for (int k = 1; k <= 29; k++) {
            Due.due("walk " + k, x.walk(0, true), 4 * k - 2);
            Due.due("longer word", x.letter(0, -1), 2 * k + 1);
            Due.due("other word", x.letter(1, -1), 2 * k - 1);
        }
        x.sharp(0, 1);
        Due.due("61 letters", x.walk(0, true), Due.FULL);
        Due.due("no wear", x.wear(1), 0);
        Due.due("no twist", x.twist(0, 1), 29);
        Due.due("no walk", x.all(2), 29);
        Due.due("tangle as it was", x.tangle(), 114);
        Due.due("the other way", x.walk(0, false), 110);
        x.sharp(0, 9);
        x.undo();
        x.undo();
        Due.due("back at 59 letters", x.walk(0, true), Due.FULL);
        KiteMeet y = new KiteMeet();
        y.row(2);
        for (int k = 1; k <= 29; k++) {
            y.walk(0, false);
        }
        Due.due("behind, too", y.letter(1, -1), 59);
        Due.due("61 letters behind", y.walk(0, false), Due.FULL);
        for (int k = 0; k < 29; k++) {
            y.walk(0, true);
        }
        Due.due("all the way back", y.all(3), 1);
        y.row(2);
        for (int k = 0; k < 27; k++) {
            y.walk(0, true);
        }
        y.sharp(0, 9);
        y.walk(0, true);
        y.undo();
        y.walk(0, true);
        y.sharp(1, 9);
        y.walk(0, true);
        y.sharp(0, 9);
        Due.due("wear", y.wear(1), 18);
        y.undo();
        y.undo();
        y.undo();
        Due.due("twist given back", y.twist(1, 0), 28);
    }

    /** Promise 17. */
    private static void at() {
        KiteMeet x = new KiteMeet();
        x.walk(0, true);
        x.walk(1, false);
        Due.due("at 0", x.at(0), 1);
        Due.due("at 1", x.at(1), 2);
        Due.due("at 2", x.at(2), 0);
        Due.due("at 3", x.at(3), Due.BEYOND);
        Due.due("at -1", x.at(-1), Due.BEYOND);
        x.row(5);
        Due.due("at 4", x.at(4), 4);
        Due.due("at 5", x.at(5), Due.BEYOND);
    }

    /** Promise 18. */
    private static void letter() {
        KiteMeet x = new KiteMeet();
        x.walk(0, true);
        Due.due("how many", x.letter(0, -1), 3);
        Due.due("forth", x.letter(0, 0), 0);
        Due.due("back", x.letter(0, 2), 10);
        Due.due("no letter 3", x.letter(0, 3), Due.BEYOND);
        Due.due("no letter -2", x.letter(0, -2), Due.BEYOND);
        Due.due("no letter 1", x.letter(1, 1), Due.BEYOND);
        Due.due("no place 3", x.letter(3, -1), Due.BEYOND);
        Due.due("no place -1", x.letter(-1, 0), Due.BEYOND);
        Due.due("largest", x.letter(2, Integer.MAX_VALUE), Due.BEYOND);
        Due.due("least", x.letter(2, Integer.MIN_VALUE), Due.BEYOND);
    }

    /** Promise 19. */
    private static void tangle() {
        KiteMeet x = new KiteMeet();
        x.row(5);
        Due.due("at first", x.tangle(), 0);
        x.walk(0, true);
        Due.due("one walk", x.tangle(), 2);
        x.walk(2, false);
        Due.due("one apart", x.tangle(), 4);
        x.walk(1, true);
        Due.due("words 0 1 10; 0 3 10; 0; 13 2 3; 4", x.tangle(), 6);
    }

    /** Promise 20. */
    private static void twist() {
        KiteMeet x = new KiteMeet();
        x.walk(0, false);
        Due.due("behind", x.twist(0, 1), -1);
        Due.due("the other way round", x.twist(1, 0), -1);
        x.walk(0, true);
        Due.due("and in front", x.twist(0, 1), 0);
        x.walk(1, true);
        x.walk(1, true);
        x.walk(0, false);
        Due.due("1 and 2", x.twist(1, 2), 2);
        Due.due("0 and 1", x.twist(0, 1), -1);
        Due.due("0 and 2", x.twist(2, 0), 0);
        Due.due("one", x.twist(1, 1), Due.SIZE);
        Due.due("none of that number", x.twist(3, 3), Due.BEYOND);
        Due.due("no such other", x.twist(0, 3), Due.BEYOND);
        Due.due("no such flyer", x.twist(-1, 0), Due.BEYOND);
        x.flyer(0, 0, 0, 1, 1, 0);
        x.row(2);
        Due.due("2 of a row of 2", x.twist(0, 2), Due.BEYOND);
    }

    /** Promise 21. */
    private static void fewest() {
        KiteMeet x = new KiteMeet();
        Due.due("untangled", x.fewest(-1), 0);
        Due.due("no walk 0", x.fewest(0), Due.NONE);
        Due.due("below -1", x.fewest(-2), Due.BEYOND);
        Due.due("least", x.fewest(Integer.MIN_VALUE), Due.BEYOND);
        Due.due("largest", x.fewest(Integer.MAX_VALUE), Due.NONE);
        x.walk(1, false);
        Due.due("one", x.fewest(-1), 1);
        Due.due("place 1, in front", x.fewest(0), 2);
        x.walk(0, true);
        x.walk(0, true);
        dueFewest(x, 1, 1, 2);
        Due.due("no walk 3", x.fewest(3), Due.NONE);
        x.walk(0, true);
        Due.due("four are too many", x.fewest(-1), Due.NONE);
        Due.due("no first one", x.fewest(0), Due.NONE);
        Due.due("BEYOND is asked first", x.fewest(-2), Due.BEYOND);
        x.walk(0, false);
        Due.due("asking changes nothing: 0 2 0 12 10; 0 2 10; 12 1 2", x.tangle(), 8);
        x.row(5);
        x.walk(3, true);
        x.walk(2, true);
        x.walk(1, true);
        dueFewest(x, 3, 5, 7);
        x.walk(0, true);
        Due.due("four", x.fewest(-1), Due.NONE);
        x.row(2);
        x.walk(0, true);
        x.walk(0, true);
        x.walk(0, true);
        dueFewest(x, 1, 1, 1);
        x.walk(0, true);
        Due.due("four of two", x.fewest(-1), Due.NONE);
    }

    private static void dueFewest(KiteMeet x, int... walks) {
        Due.due("how many", x.fewest(-1), walks.length);
        for (int i = 0; i < walks.length; i++) {
            Due.due("walk " + i, x.fewest(i), walks[i]);
        }
    }

    /** What walks far from one another, or all of three, can be told in several orders. */
    private static void fewestTakesTheFirst() {
        KiteMeet x = new KiteMeet();
        x.row(4);
        x.walk(0, true);
        x.walk(2, false);
        dueFewest(x, 1, 4);
        x.row(4);
        x.walk(2, true);
        x.walk(0, false);
        dueFewest(x, 0, 5);
        x.row(3);
        x.walk(1, true);
        x.walk(0, true);
        x.walk(1, true);
        dueFewest(x, 1, 3, 1);
        x.row(3);
        x.walk(1, false);
        x.walk(0, false);
        x.walk(1, false);
        dueFewest(x, 0, 2, 0);
        x.row(3);
        x.walk(0, true);
        x.walk(1, true);
        x.walk(0, false);
        dueFewest(x, 0, 3, 1);
        x.row(3);
        x.walk(0, true);
        x.walk(1, true);
        x.walk(0, false);
        x.walk(1, false);
        x.walk(1, true);
        dueFewest(x, 0, 3, 1);
        x.row(3);
        x.walk(0, true);
        x.walk(1, true);
        x.walk(0, true);
        x.walk(1, false);
        x.walk(0, false);
        dueFewest(x, 3);
    }

    private static void fewestAsksNoWear() {
        KiteMeet x = new KiteMeet();
        x.sharp(0, 9);
        x.walk(0, true);
        x.walk(0, true);
        x.walk(0, true);
        Due.due("lost", x.lost(), 2);
        dueFewest(x, 1, 1, 1);
        Due.due("no wear by asking", x.wear(1), 27);
    }

    private static void tell(KiteMeet x, int s, int... numbers) {
        Due.due("sheet", x.sheet(s, 8, numbers.length), numbers.length);
        for (int i = 0; i < numbers.length; i++) {
            Due.due("put", x.put(s, i, numbers[i]), 0);
        }
    }

    private static void dueSame(KiteMeet x, int n, int[] walks, int[] others, int want) {
        tell(x, 0, walks);
        tell(x, 1, others);
        Due.due("same", x.same(n, 0, 1), want);
        Due.due("same, the other way round", x.same(n, 1, 0), want);
    }

    /** Promise 22. */
    private static void same() {
        KiteMeet x = new KiteMeet();
        x.walk(0, true);
        x.row(2);
        x.walk(0, true);
        dueSame(x, 3, new int[] {0, 2, 0}, new int[] {2, 0, 2}, 1);
        dueSame(x, 3, new int[] {0, 2, 1}, new int[] {3, 0, 2}, 1);
        dueSame(x, 3, new int[] {0, 2, 0}, new int[] {2, 0, 3}, 0);
        dueSame(x, 2, new int[] {0}, new int[] {1}, 0);
        dueSame(x, 2, new int[] {0, 1}, new int[] {}, 1);
        dueSame(x, 2, new int[] {0, 0}, new int[] {}, 0);
        dueSame(x, 3, new int[] {1}, new int[] {2}, 0);
        dueSame(x, 3, new int[] {0, 0}, new int[] {0, 2, 0}, 0);
        dueSame(x, 4, new int[] {0, 4}, new int[] {4, 0}, 1);
        dueSame(x, 4, new int[] {0, 2}, new int[] {2, 0}, 0);
        dueSame(x, 5, new int[] {7, 0, 6}, new int[] {0}, 1);
        dueSame(x, 5, new int[] {7, 0, 7}, new int[] {0}, 0);
        Due.due("the row is as it was", x.tangle(), 2);
        Due.due("its size, too", x.all(1), 2);
        Due.due("its walks, too", x.all(2), 1);
        Due.due("and it's no act to undo", x.undo(), 2);
    }

    private static void sameFindings() {
        KiteMeet x = new KiteMeet();
        tell(x, 0, 0, 0);
        Due.due("n 1", x.same(1, 0, 0), Due.BEYOND);
        Due.due("n 6", x.same(6, 0, 0), Due.BEYOND);
        Due.due("sheet -1", x.same(3, -1, 0), Due.BEYOND);
        Due.due("sheet 4", x.same(3, 0, 4), Due.BEYOND);
        Due.due("BEYOND is asked ahead of MISSING", x.same(3, 1, 4), Due.BEYOND);
        Due.due("the first is missing", x.same(3, 1, 0), Due.MISSING);
        Due.due("the second is missing", x.same(3, 0, 1), Due.MISSING);
        tell(x, 0, 0, 4);
        Due.due("MISSING is asked ahead of BEYOND", x.same(3, 0, 1), Due.MISSING);
        tell(x, 1, 0);
        Due.due("4 of a row of 3", x.same(3, 0, 1), Due.BEYOND);
        Due.due("in the second sheet", x.same(3, 1, 0), Due.BEYOND);
        Due.due("4 of a row of 4", x.same(4, 1, 0), 0);
        tell(x, 0, 0, -1);
        Due.due("-1", x.same(5, 0, 1), Due.BEYOND);
        tell(x, 0, 256 + 2);
        Due.due("lowest bits", x.same(3, 0, 0), 1);
        x.sheet(2, 8, 30);
        Due.due("30 times in front", x.same(2, 2, 2), Due.FULL);
        Due.due("in the second sheet", x.same(2, 1, 2), Due.FULL);
        Due.due("a row of 3, too", x.same(3, 2, 1), Due.FULL);
        tell(x, 0, 9);
        Due.due("BEYOND is asked ahead of FULL", x.same(2, 2, 0), Due.BEYOND);
        x.sheet(2, 8, 29);
        Due.due("29 times in front", x.same(2, 2, 2), 1);
    }
}
