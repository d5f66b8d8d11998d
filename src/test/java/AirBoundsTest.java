/** The bounds that the document names in promises 9 to 14: both sides of each. */
public final class AirBoundsTest {
    public static void main(String[] args) {
        flies();
        fliesFromLeastToMost();
        fliesAsBox();
        fliesAsStuntOrFighter();
        fliesInTheFirstMinute();
        fliesByItsOwnHeightAlone();
        kite();
        kiteThatDoesNotFly();
        kiteRound();
        kiteOutsideTheField();
        meet();
        meetOfOne();
        meetNone();
        meetSpans();
        meetOnlyWhatFliesAtOneHeight();
        meets();
        meetsOfAllAndNone();
        field();
        fieldOfAllAndNone();
        fieldLeastOfSeveral();
        best();
        bestFirstOfSeveral();
        Due.end();
    }

    /** 'BEYOND': no such flyer, or minute. */
    private static void flies() {
        Bound.range("flyer", 0, 3, (x, v) -> x.flies(v, 0));
        Bound.range("minute", 0, 19, (x, v) -> x.flies(0, v));
        Bound.range("minute of the last", 0, 19, (x, v) -> x.flies(3, v));
        Bound.refusedBehind("of none", x -> { }, x -> x.flies(0, 0), Due.BEYOND);
    }

    /** Whether a kite of a kind flies in a force, in minute 0. */
    private static int fliesIn(int kind, int least, int most, int force) {
        KiteMeet x = new KiteMeet();
        x.flyer(kind, 0, 2, 1, 1, 16 * least + most);
        x.wind(2, 0, 0, force);
        return x.flies(0, 0);
    }

    /** 'FLIES in a MINUTE if its FORCE there is LEAST to MOST'. */
    private static void fliesFromLeastToMost() {
        for (int kind : new int[] {0, 1, 3}) {
            Due.due("least 4, force 3", fliesIn(kind, 4, 6, 3), 0);
            Due.due("least 4, force 4", fliesIn(kind, 4, 6, 4), 1);
            Due.due("most 6, force 6", fliesIn(kind, 4, 6, 6), 1);
            Due.due("most 6, force 7", fliesIn(kind, 4, 6, 7), 0);
            Due.due("least 0, force 0", fliesIn(kind, 0, 0, 0), 1);
            Due.due("most 0, force 1", fliesIn(kind, 0, 0, 1), 0);
            Due.due("least 12, force 11", fliesIn(kind, 12, 12, 11), 0);
            Due.due("least 12, force 12", fliesIn(kind, 12, 12, 12), 1);
        }
    }

    /** 'of a BOX: LEAST and 1 to MOST and 2'. */
    private static void fliesAsBox() {
        Due.due("least 4, force 4", fliesIn(2, 4, 6, 4), 0);
        Due.due("least 4, force 5", fliesIn(2, 4, 6, 5), 1);
        Due.due("most 6, force 8", fliesIn(2, 4, 6, 8), 1);
        Due.due("most 6, force 9", fliesIn(2, 4, 6, 9), 0);
        Due.due("least 0, force 0", fliesIn(2, 0, 0, 0), 0);
        Due.due("least 0, force 1", fliesIn(2, 0, 0, 1), 1);
        Due.due("most 0, force 2", fliesIn(2, 0, 0, 2), 1);
        Due.due("most 0, force 3", fliesIn(2, 0, 0, 3), 0);
        Due.due("most 10, force 12", fliesIn(2, 0, 10, 12), 1);
        Due.due("most 9, force 12", fliesIn(2, 0, 9, 12), 0);
        Due.due("least 11, force 12", fliesIn(2, 11, 12, 12), 1);
        Due.due("least 12, force 12", fliesIn(2, 12, 12, 12), 0);
    }

    /** Whether a kite that flies in all forces flies in a minute behind another force. */
    private static int fliesBehind(int kind, int minute, int ahead, int force) {
        KiteMeet x = new KiteMeet();
        x.flyer(kind, 0, 1, 1, 1, 12);
        x.wind(1, minute - 1, 0, ahead);
        x.wind(1, minute, 0, force);
        return x.flies(0, minute);
    }

    /** 'also not where the FORCE of the MINUTE ahead differs by more than 3'. */
    private static void fliesAsStuntOrFighter() {
        int[] minutes = {1, 10, 19};
        for (int m : minutes) {
            for (int kind : new int[] {1, 3}) {
                Due.due("3 up", fliesBehind(kind, m, 5, 8), 1);
                Due.due("4 up", fliesBehind(kind, m, 5, 9), 0);
                Due.due("3 down", fliesBehind(kind, m, 8, 5), 1);
                Due.due("4 down", fliesBehind(kind, m, 9, 5), 0);
                Due.due("12 up", fliesBehind(kind, m, 0, 12), 0);
                Due.due("12 down", fliesBehind(kind, m, 12, 0), 0);
                Due.due("as it was", fliesBehind(kind, m, 12, 12), 1);
            }
            Due.due("a KITE, 4 up", fliesBehind(0, m, 5, 9), 1);
            Due.due("a KITE, 12 down", fliesBehind(0, m, 12, 0), 1);
            Due.due("a BOX, 4 up", fliesBehind(2, m, 5, 9), 1);
            Due.due("a BOX, 11 down", fliesBehind(2, m, 12, 1), 1);
        }
    }

    /** 'MINUTE 0 has none ahead': neither minute 19, nor one of another height, nor minute 1. */
    private static void fliesInTheFirstMinute() {
        for (int kind : new int[] {1, 3}) {
            for (int height = 0; height < 4; height++) {
                KiteMeet x = new KiteMeet();
                x.flyer(kind, 0, height, 1, 1, 12);
                x.wind(height, 0, 0, 12);
                Due.due("all else 0", x.flies(0, 0), 1);
                Due.due("minute 1 has one ahead", x.flies(0, 1), 0);
                for (int h = 0; h < 4; h++) {
                    x.wind(h, 19, 0, 1);
                    x.wind(h, 0, 0, h == height ? 12 : 5);
                }
                Due.due("winds elsewhere", x.flies(0, 0), 1);
            }
        }
    }

    /** A force of another height, or of the next minute, is none of its own. */
    private static void fliesByItsOwnHeightAlone() {
        for (int kind = 0; kind < 4; kind++) {
            for (int height = 0; height < 4; height++) {
                KiteMeet x = new KiteMeet();
                x.flyer(kind, 0, height, 1, 1, 16 * 3 + 3);
                for (int h = 0; h < 4; h++) {
                    x.wind(h, 5, 0, h == height ? 4 : 12);
                    x.wind(h, 6, 0, h == height ? 4 : 12);
                    x.wind(h, 7, 0, 9);
                }
                Due.due("kind " + kind + " in 4", x.flies(0, 6), kind == 2 ? 1 : 0);
                x.wind(height, 5, 0, 3);
                x.wind(height, 6, 0, 3);
                Due.due("kind " + kind + " in 3", x.flies(0, 6), kind == 2 ? 0 : 1);
            }
        }
    }

    /** 'BEYOND': no such flyer, or minute. */
    private static void kite() {
        for (boolean ofY : new boolean[] {false, true}) {
            Bound.rangeBehind("flyer", AirBoundsTest::eight, 0, 7, (x, v) -> x.kite(v, 0, ofY));
            Bound.rangeBehind("minute", AirBoundsTest::eight, 0, 19, (x, v) -> x.kite(7, v, ofY));
            Bound.refused("no such flyer", x -> x.kite(4, 0, ofY), Due.BEYOND);
        }
    }

    /** Eight that fly in all minutes, none near another one. */
    private static void eight(KiteMeet x) {
        for (int f = 0; f < 8; f++) {
            x.flyer(0, 1010 * f, 0, 1, 1, 12);
        }
    }

    /** 'NONE: it does not FLY.' */
    private static void kiteThatDoesNotFly() {
        for (boolean ofY : new boolean[] {false, true}) {
            Bound.taken("minute 0", x -> x.kite(0, 0, ofY), (ofY ? 21 : 43) + 12);
            Bound.refused("minute 1", x -> x.kite(0, 1, ofY), Due.NONE);
            Bound.refused("a fighter in force 0", x -> x.kite(3, 19, ofY), Due.NONE);
            Bound.refused("a box in force 0", x -> x.kite(2, 0, ofY), Due.NONE);
        }
    }

    /** 'DIRECTION (0 to 7: x up, both up, y up, y up and x down, and so on round)'. */
    private static void kiteRound() {
        int[] stepX = {1, 1, 0, -1, -1, -1, 0, 1};
        int[] stepY = {0, 1, 1, 1, 0, -1, -1, -1};
        for (int direction = 0; direction < 8; direction++) {
            for (int line : new int[] {1, 40}) {
                KiteMeet x = new KiteMeet();
                x.flyer(0, 5060, 3, line, 1, 12);
                x.wind(3, 19, direction, 0);
                Due.due("x by " + direction, x.kite(0, 19, false), 50 + line * stepX[direction]);
                Due.due("y by " + direction, x.kite(0, 19, true), 60 + line * stepY[direction]);
            }
        }
    }

    /** Only flyers stand at 0 to 99; kites are LINE steps on, wherever that is. */
    private static void kiteOutsideTheField() {
        KiteMeet x = new KiteMeet();
        x.flyer(0, 9999, 0, 40, 1, 12);
        x.flyer(0, 0, 0, 40, 1, 12);
        x.wind(0, 0, 1, 0);
        x.wind(0, 1, 5, 0);
        Due.due("x above 99", x.kite(0, 0, false), 139);
        Due.due("y above 99", x.kite(0, 0, true), 139);
        Due.due("x below 0", x.kite(1, 1, false), -40);
        Due.due("y below 0", x.kite(1, 1, true), -40);
    }

    /** 'BEYOND': no such flyer, other, or minute. */
    private static void meet() {
        Bound.rangeBehind("flyer", AirBoundsTest::heap, 0, 7, (x, v) -> x.meet(v, 4, 0));
        Bound.rangeBehind("other", AirBoundsTest::heap, 0, 7, (x, v) -> x.meet(4, v, 0));
        Bound.rangeBehind("minute", AirBoundsTest::heap, 0, 19, (x, v) -> x.meet(0, 1, v));
        Bound.refused("no such flyer", x -> x.meet(4, 0, 0), Due.BEYOND);
        Bound.refused("no such other", x -> x.meet(0, 4, 0), Due.BEYOND);
    }

    /** Eight at one place that fly in all minutes. */
    private static void heap(KiteMeet x) {
        for (int f = 0; f < 8; f++) {
            x.flyer(0, 5050, 0, 1, 1, 12);
        }
    }

    /** 'SIZE: they are one.' BEYOND is asked ahead of it, and it ahead of NONE. */
    private static void meetOfOne() {
        for (int f = 0; f < 4; f++) {
            int flyer = f;
            Bound.refused("one", x -> x.meet(flyer, flyer, 0), Due.SIZE);
            Bound.refused("minute 20", x -> x.meet(flyer, flyer, 20), Due.BEYOND);
            Bound.refused("minute -1", x -> x.meet(flyer, flyer, -1), Due.BEYOND);
        }
        Bound.refused("one that is not", x -> x.meet(4, 4, 0), Due.BEYOND);
        Bound.refused("one that is not", x -> x.meet(-1, -1, 0), Due.BEYOND);
        Bound.refusedBehind("one that flies", AirBoundsTest::heap, x -> x.meet(7, 7, 0), Due.SIZE);
    }

    /** 'The first MINUTE from one on'; 'NONE: there is none.' */
    private static void meetNone() {
        Bound.taken("in 19, from 0", x -> x.meet(1, 2, 0), 19);
        Bound.taken("in 19, from 19", x -> x.meet(2, 1, 19), 19);
        Bound.refused("in no minute", x -> x.meet(0, 1, 0), Due.NONE);
        KiteMeet x = new KiteMeet();
        x.flyer(0, 5050, 3, 1, 1, 16 + 12);
        x.flyer(0, 5050, 3, 1, 1, 16 + 12);
        x.wind(3, 6, 0, 1);
        Due.due("from 5", x.meet(0, 1, 5), 6);
        Due.due("from 6", x.meet(0, 1, 6), 6);
        Due.due("from 7", x.meet(0, 1, 7), Due.NONE);
        x.wind(3, 0, 0, 1);
        Due.due("from 0", x.meet(0, 1, 0), 0);
        Due.due("from 1", x.meet(0, 1, 1), 6);
        Due.due("not round to 0", x.meet(0, 1, 7), Due.NONE);
    }

    /** Whether two whose kites differ by x and y meet. */
    private static boolean near(int span, int otherSpan, int differX, int differY) {
        KiteMeet x = new KiteMeet();
        x.flyer(0, 5050, 0, 1, span, 12);
        x.flyer(0, 5050 + 100 * differX + differY, 0, 1, otherSpan, 12);
        boolean meets = x.meets(0) == 1;
        Due.due("meet as meets", x.meet(0, 1, 0), meets ? 0 : Due.NONE);
        return meets;
    }

    /** 'if x and y of where they are both differ by less than both SPANS together'. */
    private static void meetSpans() {
        int[][] spans = {{1, 1}, {1, 9}, {9, 1}, {4, 3}, {9, 9}};
        for (int[] s : spans) {
            int both = s[0] + s[1];
            for (int sign = -1; sign <= 1; sign += 2) {
                int less = sign * (both - 1);
                int as = sign * both;
                Due.holds("x less", near(s[0], s[1], less, 0));
                Due.holds("x not less", !near(s[0], s[1], as, 0));
                Due.holds("y less", near(s[0], s[1], 0, less));
                Due.holds("y not less", !near(s[0], s[1], 0, as));
                Due.holds("both less", near(s[0], s[1], less, less));
                Due.holds("both less, one up, one down", near(s[0], s[1], less, -less));
                Due.holds("x alone less", !near(s[0], s[1], less, as));
                Due.holds("y alone less", !near(s[0], s[1], as, less));
                Due.holds("neither", !near(s[0], s[1], as, as));
            }
        }
    }

    /** 'Two that FLY at one HEIGHT'. */
    private static void meetOnlyWhatFliesAtOneHeight() {
        KiteMeet x = new KiteMeet();
        x.flyer(0, 5050, 0, 1, 9, 12);
        x.flyer(0, 5050, 1, 1, 9, 12);
        x.flyer(0, 5050, 0, 1, 9, 16 + 12);
        x.flyer(0, 5050, 0, 1, 9, 0);
        Due.due("another height", x.meet(0, 1, 0), Due.NONE);
        Due.due("the second does not fly", x.meet(0, 2, 0), Due.NONE);
        Due.due("the first does not fly", x.meet(2, 0, 0), Due.NONE);
        Due.due("both fly", x.meet(0, 3, 0), 0);
        x.wind(0, 4, 0, 1);
        Due.due("now the third flies", x.meet(2, 0, 0), 4);
        Due.due("and the fourth does not", x.meet(2, 3, 0), Due.NONE);
    }

    /** 'BEYOND': no such minute. */
    private static void meets() {
        Bound.range("minute", 0, 19, (x, v) -> x.meets(v));
        Bound.rangeBehind("minute of eight", AirBoundsTest::heap, 0, 19, (x, v) -> x.meets(v));
    }

    /** None, one pair, and all 28 of eight. */
    private static void meetsOfAllAndNone() {
        Bound.takenBehind("no flyers", x -> { }, x -> x.meets(0), 0);
        Bound.takenBehind("one flyer", x -> x.flyer(0, 0, 0, 1, 9, 12), x -> x.meets(0), 0);
        Bound.takenBehind("eight apart", AirBoundsTest::eight, x -> x.meets(19), 0);
        Bound.takenBehind("eight at one place", AirBoundsTest::heap, x -> x.meets(0), 28);
        Bound.takenBehind("eight at one place", AirBoundsTest::heap, x -> x.meets(19), 28);
        Bound.taken("one pair in 19", x -> x.meets(19), 1);
        Bound.taken("none in 18", x -> x.meets(18), 0);
    }

    /** 'BEYOND': no such minute. */
    private static void field() {
        Bound.range("minute", 0, 19, (x, v) -> x.field(v));
        Bound.rangeBehind("minute of eight", AirBoundsTest::heap, 0, 19, (x, v) -> x.field(v));
    }

    /** 'the set with the most FLYERS whose KITES FLY then, no two of which MEET'. */
    private static void fieldOfAllAndNone() {
        Bound.takenBehind("no flyers", x -> { }, x -> x.field(0), 0);
        Bound.takenBehind("one flyer", x -> x.flyer(0, 0, 0, 1, 9, 12), x -> x.field(0), 1);
        Bound.takenBehind("eight apart", AirBoundsTest::eight, x -> x.field(0), 255);
        Bound.takenBehind("eight apart", AirBoundsTest::eight, x -> x.field(19), 255);
        Bound.takenBehind("eight at one place", AirBoundsTest::heap, x -> x.field(0), 1);
        KiteMeet x = new KiteMeet();
        for (int f = 0; f < 8; f++) {
            x.flyer(0, 1010 * f, 0, 1, 1, 16 + 12);
        }
        x.wind(0, 1, 0, 1);
        Due.due("none flies", x.field(0), 0);
        Due.due("all fly", x.field(1), 255);
    }

    /** 'of several the least as bits'. */
    private static void fieldLeastOfSeveral() {
        KiteMeet x = new KiteMeet();
        for (int f = 0; f < 8; f++) {
            x.flyer(0, f < 4 ? 1010 : 9090, 0, 1, 1, 12);
        }
        Due.due("one of each four", x.field(0), 0b00010001);
        x.go(0, 9090);
        Due.due("the first among the later", x.field(0), 0b00000011);
        x.go(0, 5050);
        Due.due("one alone and one of each", x.field(0), 0b00010011);
        KiteMeet ring = new KiteMeet();
        int[] places = {5050, 5054, 5454, 5450};
        for (int place : places) {
            ring.flyer(0, place, 0, 1, 2, 12);
        }
        Due.due("none of four meet", ring.field(0), 0b1111);
        ring.go(1, 5053);
        Due.due("the first two meet", ring.field(0), 0b1101);
        ring.go(3, 5350);
        Due.due("and the last meets both", ring.field(0), 0b0101);
        KiteMeet late = new KiteMeet();
        late.flyer(0, 5050, 0, 1, 9, 12);
        late.flyer(0, 5040, 0, 1, 1, 12);
        late.flyer(0, 5042, 0, 1, 1, 12);
        late.flyer(0, 5044, 0, 1, 1, 12);
        Due.due("more ahead of least", late.field(0), 0b1110);
        late.go(2, 5041);
        late.go(3, 5042);
        Due.due("two of the later, or the first and one", late.field(0), 0b0011);
    }

    /** 'BEYOND: no such MINUTE (either), or from above to.' */
    private static void best() {
        Bound.range("from", 0, 19, (x, v) -> x.best(v, 19));
        Bound.range("to", 0, 19, (x, v) -> x.best(0, v));
        Bound.refused("neither", x -> x.best(-1, 20), Due.BEYOND);
        Bound.refused("both below", x -> x.best(-2, -1), Due.BEYOND);
        Bound.refused("both above", x -> x.best(20, 21), Due.BEYOND);
        for (int m = 0; m < 20; m++) {
            int minute = m;
            Bound.taken("from is to", x -> x.best(minute, minute), m);
            if (m > 0) {
                Bound.refused("from above to", x -> x.best(minute, minute - 1), Due.BEYOND);
            }
        }
        Bound.refused("from far above to", x -> x.best(19, 0), Due.BEYOND);
    }

    /** 'in which the FIELD has most FLYERS, of several the first'; both ends are looked at. */
    private static void bestFirstOfSeveral() {
        Bound.takenBehind("no flyers", x -> { }, x -> x.best(0, 19), 0);
        Bound.takenBehind("no flyers, from 7", x -> { }, x -> x.best(7, 19), 7);
        Bound.takenBehind("as many in all", AirBoundsTest::eight, x -> x.best(11, 19), 11);
        KiteMeet x = new KiteMeet();
        x.flyer(0, 1010, 0, 1, 1, 16 + 12);
        x.flyer(0, 9090, 0, 1, 1, 16 * 2 + 12);
        x.wind(0, 3, 0, 1);
        x.wind(0, 9, 0, 2);
        x.wind(0, 12, 0, 3);
        x.wind(0, 19, 0, 1);
        Due.due("all", x.best(0, 19), 9);
        Due.due("up to 9", x.best(0, 9), 9);
        Due.due("up to 8", x.best(0, 8), 3);
        Due.due("from 9", x.best(9, 19), 9);
        Due.due("from 10", x.best(10, 19), 12);
        Due.due("from 13", x.best(13, 19), 19);
        Due.due("from 13 to 18", x.best(13, 18), 13);
    }
}
