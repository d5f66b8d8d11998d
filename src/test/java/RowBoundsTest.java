import java.util.function.Consumer;

/** The bounds that the document names in promises 15 to 22: both sides of each. */
public final class RowBoundsTest {
    public static void main(String[] args) {
        row();
        rowBeginsAnew();
        rowTellsWalksSinceTheOneBefore();
        walkPlace();
        walkOfLostOnes();
        walkOfTooLongWords();
        walkOfFarTooLongWords();
        walkIsNotStoppedByOtherWords();
        walkOrderOfFindings();
        lettersThatAreNothing();
        at();
        letterPlace();
        letterNumber();
        tangle();
        twist();
        twistOfOne();
        twistBothWays();
        twistOfEachPair();
        fewestBelow();
        fewestHasNotSoMany();
        fewestOfAtMostThree();
        fewestFirstOfSeveral();
        sameRowAndSheets();
        sameMissing();
        sameNumbers();
        sameTooLong();
        sameOrderOfFindings();
        sameFromFirstOn();
        sameByLettersNotByLength();
        Due.end();
    }

    private static Consumer<KiteMeet> rowOf(int n) {
        return x -> x.row(n);
    }

    /** Two who wind about one another; behind 29 walks their words have 59 and 57 letters. */
    private static void wind(KiteMeet x, int place, boolean front, int times) {
        for (int i = 0; i < times; i++) {
            x.walk(place, front);
        }
    }

    /** 'n 2 to 5'; 'BEYOND'. */
    private static void row() {
        Bound.range("n", 2, 5, (x, v) -> x.row(v));
        for (int n = 2; n <= 5; n++) {
            KiteMeet x = new KiteMeet();
            x.row(n);
            Due.due("how many", x.all(1), n);
            Due.due("the last", x.at(n - 1), n - 1);
        }
    }

    /** 'begins anew, all as at first (SHARPNESS too)', of as many, of more and of fewer. */
    private static void rowBeginsAnew() {
        for (int was = 2; was <= 5; was++) {
            for (int n = 2; n <= 5; n++) {
                KiteMeet x = new KiteMeet();
                x.row(was);
                for (int k = 0; k < was; k++) {
                    x.sharp(k, 9);
                }
                for (int p = 0; p < was - 1; p++) {
                    x.walk(p, p % 2 == 0);
                }
                wind(x, was - 2, true, 2);
                x.row(n);
                dueAsAtFirst(x, n);
            }
        }
    }

    private static void dueAsAtFirst(KiteMeet x, int n) {
        Due.due("walks", x.all(2), 0);
        Due.due("untangled", x.all(3), 1);
        Due.due("tangle", x.tangle(), 0);
        Due.due("lost", x.lost(), 0);
        Due.due("fewest", x.fewest(-1), 0);
        for (int k = 0; k < n; k++) {
            Due.due("at", x.at(k), k);
            Due.due("letters", x.letter(k, -1), 1);
            Due.due("letter", x.letter(k, 0), k);
            Due.due("wear", x.wear(k), 0);
            Due.due("sharpness", x.sharp(k, 0), 0);
            for (int o = 0; o < k; o++) {
                Due.due("twist", x.twist(k, o), 0);
            }
        }
    }

    /** 'how many WALKS were done since the one before began': without refused and undone ones. */
    private static void rowTellsWalksSinceTheOneBefore() {
        KiteMeet x = new KiteMeet();
        Due.due("none since the first", x.row(3), 0);
        x.walk(0, true);
        Due.due("one", x.row(3), 1);
        Due.due("none since", x.row(3), 0);
        x.walk(0, true);
        x.walk(0, false);
        x.walk(2, true);
        x.walk(1, true);
        x.undo();
        x.row(6);
        Due.due("two: one refused, one undone", x.row(2), 2);
        x.undo();
        Due.due("two again", x.row(2), 2);
    }

    /** 'A WALK at PLACE i (0 to n - 2)'; 'BEYOND'. */
    private static void walkPlace() {
        for (int n = 2; n <= 5; n++) {
            for (boolean front : new boolean[] {true, false}) {
                String what = "place of " + n;
                Bound.rangeBehind(what, rowOf(n), 0, n - 2, (x, v) -> x.walk(v, front));
            }
        }
        Bound.rangeBehind("place of 3 at first", x -> { }, 0, 1, (x, v) -> x.walk(v, true));
    }

    /** 'LOST: one of the two is': the one at the place, the next one, both; not one beside them. */
    private static void walkOfLostOnes() {
        for (boolean front : new boolean[] {true, false}) {
            Bound.takenBehind("1 is at place 0", RowBoundsTest::secondIsLost, x -> x.at(0), 1);
            Bound.refusedBehind("both places", RowBoundsTest::secondIsLost,
                    x -> x.walk(0, front), Due.LOST);
            Bound.takenBehind("beside the lost one", RowBoundsTest::secondIsLost,
                    x -> x.walk(1, front) - x.tangle(), 0);
            Bound.takenBehind("far from it", RowBoundsTest::secondIsLost,
                    x -> x.walk(2, front) - x.tangle(), 0);
            Bound.refusedBehind("at the second place", RowBoundsTest::firstPlacesAreLost,
                    x -> x.walk(0, front), Due.LOST);
            Bound.refusedBehind("at the first place", RowBoundsTest::firstPlacesAreLost,
                    x -> x.walk(1, front), Due.LOST);
        }
    }

    /** A row of 4 as 1 0 2 3, of which flyer 1 is lost. */
    private static void secondIsLost(KiteMeet x) {
        x.row(4);
        x.sharp(0, 9);
        wind(x, 0, true, 3);
    }

    /** A row of 4 as 0 1 2 3, of which flyer 1 is lost. */
    private static void firstPlacesAreLost(KiteMeet x) {
        x.row(4);
        x.sharp(0, 5);
        wind(x, 0, true, 4);
    }

    /** 'FULL: a word would be too long': of 61 letters, where 59 are not (a count is odd). */
    private static void walkOfTooLongWords() {
        for (boolean front : new boolean[] {true, false}) {
            Consumer<KiteMeet> nearly = x -> {
                x.row(2);
                wind(x, 0, front, 28);
            };
            Consumer<KiteMeet> most = x -> {
                nearly.accept(x);
                x.walk(0, front);
            };
            Bound.takenBehind("59 letters", nearly, x -> x.walk(0, front), 59 + 57 - 2);
            Bound.takenBehind("59 letters", most, x -> x.letter(front ? 0 : 1, -1), 59);
            Bound.refusedBehind("61 letters", most, x -> x.walk(0, front), Due.FULL);
            Bound.takenBehind("back, though 173 letters are joined", most,
                    x -> x.walk(0, !front), 57 + 55 - 2);
        }
    }

    /** Words of 43, 17 and 25 letters at the last places of a row of 5, and walks far above 60. */
    private static void walkOfFarTooLongWords() {
        Consumer<KiteMeet> tangled = x -> {
            x.row(5);
            for (int i = 0; i < 7; i++) {
                x.walk(2 + i % 2, i % 2 == 0);
            }
        };
        Bound.takenBehind("43 letters", tangled, x -> x.letter(2, -1), 43);
        Bound.refusedBehind("in front", tangled, x -> x.walk(2, true), Due.FULL);
        Bound.refusedBehind("behind", tangled, x -> x.walk(3, false), Due.FULL);
        Bound.takenBehind("back", tangled, x -> x.walk(2, false), 48);
        Bound.takenBehind("17 letters about 25", tangled, x -> x.walk(3, true), 116);
    }

    /** Long words elsewhere don't stop a walk; a kept word of 59 letters doesn't, either. */
    private static void walkIsNotStoppedByOtherWords() {
        Consumer<KiteMeet> most = x -> {
            x.row(4);
            wind(x, 0, true, 29);
        };
        Bound.takenBehind("elsewhere", most, x -> x.walk(2, true), 114 + 2);
        Bound.takenBehind("elsewhere, behind", most, x -> x.walk(2, false), 114 + 2);
        Bound.refusedBehind("beside, the longer about", most, x -> x.walk(1, true), Due.FULL);
        Bound.takenBehind("beside, the shorter about", most, x -> x.walk(1, false), 114 + 2);
    }

    /** BEYOND, then LOST, then FULL. */
    private static void walkOrderOfFindings() {
        Consumer<KiteMeet> lost = x -> {
            x.row(2);
            wind(x, 0, true, 26);
            x.sharp(1, 9);
            wind(x, 0, true, 3);
        };
        Bound.takenBehind("59 letters", lost, x -> x.letter(0, -1), 59);
        Bound.takenBehind("and one is lost", lost, KiteMeet::lost, 1);
        Bound.refusedBehind("LOST ahead of FULL", lost, x -> x.walk(0, true), Due.LOST);
        Bound.refusedBehind("LOST", lost, x -> x.walk(0, false), Due.LOST);
        Bound.refusedBehind("BEYOND ahead of both", lost, x -> x.walk(1, true), Due.BEYOND);
        Bound.refusedBehind("BEYOND ahead of both", lost, x -> x.walk(-1, true), Due.BEYOND);
    }

    /** 'one forth and the same one back beside one another are nothing (and go)'. */
    private static void lettersThatAreNothing() {
        KiteMeet x = new KiteMeet();
        x.walk(0, true);
        x.walk(0, false);
        Due.due("0 1 10 about 0: one letter stays", x.letter(0, -1) * 10 + x.letter(1, -1), 11);
        x.walk(1, false);
        x.walk(1, true);
        Due.due("12 1 2 about 2: one letter stays", x.letter(1, -1) * 10 + x.letter(2, -1), 11);
        wind(x, 0, true, 10);
        wind(x, 0, false, 10);
        for (int k = 0; k < 3; k++) {
            Due.due("many go, one after another", x.letter(k, 0), k);
        }
        x.walk(0, true);
        x.walk(0, true);
        Due.due("the same one forth twice stays", x.letter(0, 0) * 10 + x.letter(0, -1), 5);
    }

    /** 'BEYOND': no such place, in rows of each length. */
    private static void at() {
        for (int n = 2; n <= 5; n++) {
            Bound.rangeBehind("place of " + n, rowOf(n), 0, n - 1, (x, v) -> x.at(v));
        }
    }

    /** 'BEYOND: no such PLACE'. */
    private static void letterPlace() {
        for (int n = 2; n <= 5; n++) {
            Bound.rangeBehind("place of " + n, rowOf(n), 0, n - 1, (x, v) -> x.letter(v, 0));
            Bound.rangeBehind("place of " + n, rowOf(n), 0, n - 1, (x, v) -> x.letter(v, -1));
        }
    }

    /** 'BEYOND: no such LETTER' (i -1: how many there are). */
    private static void letterNumber() {
        Bound.rangeBehind("i of one letter", rowOf(2), -1, 0, (x, v) -> x.letter(1, v));
        Consumer<KiteMeet> most = x -> {
            x.row(2);
            wind(x, 0, true, 29);
        };
        Bound.rangeBehind("i of 59 letters", most, -1, 58, (x, v) -> x.letter(0, v));
        Bound.rangeBehind("i of 57 letters", most, -1, 56, (x, v) -> x.letter(1, v));
        KiteMeet x = new KiteMeet();
        x.row(5);
        x.walk(3, false);
        int[] word = {14, 3, 4};
        Due.due("how many", x.letter(4, -1), 3);
        for (int i = 0; i < 3; i++) {
            Due.due("forth, and back", x.letter(4, i), word[i]);
        }
        Due.due("a shorter word's", x.letter(3, 1), Due.BEYOND);
    }

    /** 'how many LETTERS all WORDS have, less n': none at first, in rows of each length. */
    private static void tangle() {
        for (int n = 2; n <= 5; n++) {
            Bound.takenBehind("at first", rowOf(n), KiteMeet::tangle, 0);
            int last = n - 2;
            Bound.takenBehind("one walk", rowOf(n), x -> x.walk(last, true) * 10 + x.tangle(), 22);
        }
        KiteMeet x = new KiteMeet();
        x.row(4);
        wind(x, 0, true, 29);
        wind(x, 2, false, 29);
        Due.due("four words of 59 and 57 letters", x.tangle(), 2 * (59 + 57) - 4);
    }

    /** 'TWIST of two FLYERS of THE ROW. BEYOND.' Flyers that are told are not asked for. */
    private static void twist() {
        for (int n = 2; n <= 5; n++) {
            int size = n;
            Consumer<KiteMeet> row = x -> {
                Bound.scene(x);
                x.row(size);
            };
            Bound.rangeBehind("flyer", row, 0, n - 1, (x, v) -> x.twist(v, v == 0 ? 1 : 0));
            Bound.rangeBehind("other", row, 0, n - 1, (x, v) -> x.twist(v == 0 ? 1 : 0, v));
        }
    }

    /** 'SIZE: they are one.' BEYOND is asked ahead of it. */
    private static void twistOfOne() {
        for (int n = 2; n <= 5; n++) {
            for (int f = 0; f < n; f++) {
                int flyer = f;
                Bound.refusedBehind("one", rowOf(n), x -> x.twist(flyer, flyer), Due.SIZE);
            }
            int size = n;
            Bound.refusedBehind("one that is not", rowOf(n), x -> x.twist(size, size), Due.BEYOND);
        }
        Bound.refused("one that is not", x -> x.twist(-1, -1), Due.BEYOND);
    }

    /** 'with the one of the lesser PLACE IN FRONT, less how often BEHIND', up to 29 and -29. */
    private static void twistBothWays() {
        for (boolean front : new boolean[] {true, false}) {
            KiteMeet x = new KiteMeet();
            x.row(5);
            wind(x, 3, front, 29);
            Due.due("29 walks", x.twist(3, 4), front ? 29 : -29);
            Due.due("a refused one is none", x.walk(3, front), Due.FULL);
            Due.due("the other way round", x.twist(4, 3), front ? 29 : -29);
            x.walk(3, !front);
            Due.due("one back", x.twist(3, 4), front ? 28 : -28);
            Due.due("others", x.twist(2, 3), 0);
        }
    }

    /** Each pair has a twist of its own: one walks past all behind it, past the last twice. */
    private static void twistOfEachPair() {
        for (int f = 0; f < 4; f++) {
            KiteMeet x = new KiteMeet();
            x.row(5);
            for (int p = f; p < 4; p++) {
                x.walk(p, true);
            }
            x.walk(3, false);
            for (int k = 0; k < 25; k++) {
                int flyer = k / 5;
                int other = k % 5;
                if (flyer < other) {
                    int twist = flyer == f && other < 4 ? 1 : 0;
                    Due.due("twist " + flyer + " " + other, x.twist(flyer, other), twist);
                }
            }
        }
    }

    /** 'BEYOND: i is below -1', also where there are none such. */
    private static void fewestBelow() {
        for (int i : new int[] {-2, -3, Integer.MIN_VALUE}) {
            Bound.refusedBehind("i " + i, x -> { }, x -> x.fewest(i), Due.BEYOND);
            Bound.refused("i " + i, x -> x.fewest(i), Due.BEYOND);
            Bound.refusedBehind("i " + i, x -> wind(x, 0, true, 4), x -> x.fewest(i), Due.BEYOND);
        }
        Bound.takenBehind("i -1", x -> { }, x -> x.fewest(-1), 0);
    }

    /** 'NONE: FEWEST has not so many', for FEWEST of 0 to 3 walks. */
    private static void fewestHasNotSoMany() {
        for (int k = 0; k <= 3; k++) {
            int walks = k;
            Consumer<KiteMeet> before = x -> wind(x, 1, false, walks);
            Bound.takenBehind("how many", before, x -> x.fewest(-1), walks);
            for (int i = 0; i < walks; i++) {
                int number = i;
                Bound.takenBehind("walk " + i, before, x -> x.fewest(number), 2);
            }
            for (int i : new int[] {walks, walks + 1, 3, 4, Integer.MAX_VALUE}) {
                Bound.refusedBehind("walk " + i, before, x -> x.fewest(i), Due.NONE);
            }
        }
    }

    /** 'rows of at most 3 WALKS'; 'NONE: there are none such', in rows of each length. */
    private static void fewestOfAtMostThree() {
        for (int n = 2; n <= 5; n++) {
            int last = n - 2;
            for (boolean front : new boolean[] {true, false}) {
                Consumer<KiteMeet> three = rowOf(n).andThen(x -> wind(x, last, front, 3));
                Consumer<KiteMeet> four = three.andThen(x -> x.walk(last, front));
                Bound.takenBehind("three", three, x -> x.fewest(-1), 3);
                Bound.takenBehind("the last of three", three,
                        x -> x.fewest(2), 2 * last + (front ? 1 : 0));
                for (int i = -1; i <= 3; i++) {
                    int number = i;
                    Bound.refusedBehind("four", four, x -> x.fewest(number), Due.NONE);
                }
            }
        }
        Consumer<KiteMeet> longest = x -> {
            x.row(2);
            wind(x, 0, true, 29);
        };
        Bound.refusedBehind("59 letters", longest, x -> x.fewest(-1), Due.NONE);
    }

    /** 'of several the first, by PLACES, IN FRONT ahead of BEHIND'. */
    private static void fewestFirstOfSeveral() {
        KiteMeet x = new KiteMeet();
        x.row(5);
        x.walk(3, true);
        x.walk(0, true);
        Due.due("place 0 ahead of 3", x.fewest(0) * 10 + x.fewest(1), 17);
        x.row(5);
        x.walk(0, false);
        x.walk(3, true);
        Due.due("place 0 ahead of 3, in front", x.fewest(0) * 10 + x.fewest(1), 7);
        x.row(4);
        x.walk(2, true);
        x.walk(1, true);
        x.walk(2, true);
        dueFewest(x, 3, 5, 3);
        x.row(4);
        x.walk(2, false);
        x.walk(1, false);
        x.walk(2, false);
        dueFewest(x, 2, 4, 2);
        x.row(4);
        x.walk(0, true);
        x.walk(1, true);
        x.walk(0, false);
        dueFewest(x, 0, 3, 1);
        x.row(4);
        x.walk(0, false);
        x.walk(1, true);
        x.walk(0, true);
        dueFewest(x, 1, 3, 0);
    }

    private static void dueFewest(KiteMeet x, int... walks) {
        Due.due("how many", x.fewest(-1), walks.length);
        for (int i = 0; i < walks.length; i++) {
            Due.due("walk " + i, x.fewest(i), walks[i]);
        }
    }

    /** Four sheets of one walk each. */
    private static void walkSheets(KiteMeet x) {
        for (int s = 0; s < 4; s++) {
            Bound.numbers(x, s, 8, 0);
        }
    }

    /** 'BEYOND: n, or no such sheet (either).' */
    private static void sameRowAndSheets() {
        Consumer<KiteMeet> all = RowBoundsTest::walkSheets;
        Bound.rangeBehind("n", all, 2, 5, (x, v) -> x.same(v, 0, 1));
        Bound.rangeBehind("the first sheet", all, 0, 3, (x, v) -> x.same(3, v, 1));
        Bound.rangeBehind("the second sheet", all, 0, 3, (x, v) -> x.same(3, 1, v));
        Bound.takenBehind("a sheet and itself", all, x -> x.same(2, 3, 3), 1);
    }

    /** 'MISSING: one is.' A sheet of no numbers is not MISSING. */
    private static void sameMissing() {
        Consumer<KiteMeet> one = x -> Bound.numbers(x, 1, 32);
        Bound.refusedBehind("the first", one, x -> x.same(3, 0, 1), Due.MISSING);
        Bound.refusedBehind("the second", one, x -> x.same(3, 1, 0), Due.MISSING);
        Bound.refusedBehind("both", one, x -> x.same(3, 0, 2), Due.MISSING);
        Bound.refusedBehind("one and itself", one, x -> x.same(3, 3, 3), Due.MISSING);
        Bound.takenBehind("no numbers", one, x -> x.same(3, 1, 1), 1);
    }

    /** Sheets 0 and 1 of three walks each, one of which is v instead. */
    private static Consumer<KiteMeet> withNumber(int sheet, int i, int v) {
        return x -> {
            Bound.numbers(x, 0, 32, 0, 0, 0);
            Bound.numbers(x, 1, 32, 0, 0, 0);
            x.put(sheet, i, v);
        };
    }

    /** 'BEYOND: a number tells no WALK': 0 to 2n - 3 do, wherever the number stands. */
    private static void sameNumbers() {
        for (int n = 2; n <= 5; n++) {
            int size = n;
            for (int k = 0; k < 6; k++) {
                int sheet = k / 3;
                int i = k % 3;
                Bound.takenBehind("0 of " + n, withNumber(sheet, i, 0), x -> x.same(size, 0, 1), 1);
                Bound.takenBehind("the last of " + n, withNumber(sheet, i, 2 * n - 3),
                        x -> x.same(size, 0, 1), 0);
                int[] beyond = {-1, 2 * n - 2, Integer.MIN_VALUE, Integer.MAX_VALUE};
                for (int v : beyond) {
                    Bound.refusedBehind(v + " of " + n, withNumber(sheet, i, v),
                            x -> x.same(size, 0, 1), Due.BEYOND);
                }
            }
        }
    }

    /** 'FULL: a word would be too long': 29 walks are not, 30 are, though later ones go back. */
    private static void sameTooLong() {
        for (int told = 0; told <= 1; told++) {
            int walk = told;
            Bound.takenBehind("29 walks", x -> windSheets(x, walk, 29), x -> x.same(2, 0, 0), 1);
            Bound.takenBehind("29 walks", x -> windSheets(x, walk, 29), x -> x.same(2, 0, 1), 0);
            Consumer<KiteMeet> tooLong = x -> windSheets(x, walk, 30);
            Bound.refusedBehind("30 walks", tooLong, x -> x.same(2, 0, 0), Due.FULL);
            Bound.refusedBehind("in the first", tooLong, x -> x.same(2, 0, 1), Due.FULL);
            Bound.refusedBehind("in the second", tooLong, x -> x.same(2, 1, 0), Due.FULL);
            Bound.refusedBehind("of a row of 5", tooLong, x -> x.same(5, 0, 1), Due.FULL);
            Consumer<KiteMeet> back = x -> {
                windSheets(x, walk, 40);
                for (int i = 30; i < 40; i++) {
                    x.put(0, i, 1 - walk);
                }
            };
            Bound.refusedBehind("30 on, 10 back", back, x -> x.same(2, 0, 0), Due.FULL);
            Bound.takenBehind("29 on, 11 back", back.andThen(x -> x.put(0, 29, 1 - walk)),
                    x -> x.same(2, 0, 0), 1);
        }
    }

    /** Sheet 0 of as many of one walk, sheet 1 of none. */
    private static void windSheets(KiteMeet x, int walk, int times) {
        x.sheet(1, 8, 0);
        x.sheet(0, 8, times);
        for (int i = 0; i < times; i++) {
            x.put(0, i, walk);
        }
    }

    /** BEYOND of n and sheets, then MISSING, then BEYOND of numbers, then FULL. */
    private static void sameOrderOfFindings() {
        Consumer<KiteMeet> odd = x -> Bound.numbers(x, 1, 32, 99);
        Bound.refusedBehind("n ahead of MISSING", odd, x -> x.same(1, 0, 0), Due.BEYOND);
        Bound.refusedBehind("n ahead of MISSING", odd, x -> x.same(6, 0, 1), Due.BEYOND);
        Bound.refusedBehind("the first sheet ahead of MISSING", odd,
                x -> x.same(3, 4, 0), Due.BEYOND);
        Bound.refusedBehind("the second sheet ahead of MISSING", odd,
                x -> x.same(3, 0, 4), Due.BEYOND);
        Bound.refusedBehind("MISSING ahead of the first's numbers", odd,
                x -> x.same(3, 1, 0), Due.MISSING);
        Bound.refusedBehind("MISSING ahead of the second's numbers", odd,
                x -> x.same(3, 0, 1), Due.MISSING);
        Consumer<KiteMeet> both = x -> {
            windSheets(x, 0, 31);
            Bound.numbers(x, 2, 32, 99);
            x.put(0, 30, 7);
        };
        Bound.refusedBehind("a number ahead of FULL", both, x -> x.same(2, 0, 1), Due.BEYOND);
        Bound.refusedBehind("FULL, where all tell walks", both, x -> x.same(5, 0, 1), Due.FULL);
        Bound.refusedBehind("the second's numbers ahead of FULL", both,
                x -> x.same(5, 0, 2), Due.BEYOND);
        Bound.refusedBehind("the first's numbers ahead of FULL", both,
                x -> x.same(5, 2, 0), Due.BEYOND);
    }

    /** 'from a ROW as at first, of n': neither the row's words nor its wear are asked for. */
    private static void sameFromFirstOn() {
        Consumer<KiteMeet> worn = x -> {
            x.row(2);
            x.sharp(0, 9);
            x.sharp(1, 9);
            wind(x, 0, true, 3);
            Bound.numbers(x, 0, 8, 0, 2, 0, 1, 3, 1);
            Bound.numbers(x, 1, 16);
            Bound.numbers(x, 2, 32, 6, 7, 6);
            Bound.numbers(x, 3, 8, 6);
        };
        Bound.takenBehind("all are lost", worn, KiteMeet::lost, 3);
        Bound.takenBehind("0 2 0 1 3 1 is nothing", worn, x -> x.same(3, 0, 1), 1);
        Bound.takenBehind("6 7 6 is 6", worn, x -> x.same(5, 2, 3), 1);
        Bound.takenBehind("6 is not nothing", worn, x -> x.same(5, 3, 1), 0);
        Bound.takenBehind("nothing is nothing", worn, x -> x.same(5, 1, 1), 1);
        Bound.refusedBehind("6 of a row of 4", worn, x -> x.same(4, 2, 3), Due.BEYOND);
    }

    /** Words of as many letters are not the same if one letter is another. */
    private static void sameByLettersNotByLength() {
        int[][][] others = {
            {{1}, {2}}, {{3, 0}, {0, 3, 3, 2}}, {{0, 0}, {0, 2, 0}}, {{3, 3}, {1, 3, 1}},
        };
        for (int[][] pair : others) {
            Consumer<KiteMeet> before = x -> {
                Bound.numbers(x, 0, 8, pair[0]);
                Bound.numbers(x, 1, 8, pair[1]);
            };
            Bound.takenBehind("other letters", before, x -> x.same(3, 0, 1), 0);
            Bound.takenBehind("the same letters", before, x -> x.same(3, 1, 1), 1);
        }
    }
}
