/** Promises 9 to 14: what flies, where it is, what meets. */
public final class AirTest {
    public static void main(String[] args) {
        flies();
        fliesInChangingForces();
        kite();
        meet();
        meets();
        field();
        fieldTakesLeastBits();
        best();
        Due.end();
    }

    /** Promise 9: kinds 0 to 3 with LEAST 4 and MOST 6, by forces in minute 0. */
    private static void flies() {
        KiteMeet x = new KiteMeet();
        for (int kind = 0; kind < 4; kind++) {
            x.flyer(kind, 5050, 0, 5, 1, 16 * 4 + 6);
        }
        for (int force = 0; force <= 12; force++) {
            x.wind(0, 0, 0, force);
            for (int kind = 0; kind < 4; kind++) {
                boolean up = kind == 2 ? force >= 5 && force <= 8 : force >= 4 && force <= 6;
                Due.due("kind " + kind + " in force " + force, x.flies(kind, 0), up ? 1 : 0);
            }
        }
        Due.due("flyer 4", x.flies(4, 0), Due.BEYOND);
        Due.due("flyer -1", x.flies(-1, 0), Due.BEYOND);
        Due.due("minute 20", x.flies(0, 20), Due.BEYOND);
        Due.due("minute -1", x.flies(0, -1), Due.BEYOND);
    }

    /** Only stunts and fighters mind how the force of the minute ahead differs. */
    private static void fliesInChangingForces() {
        KiteMeet x = new KiteMeet();
        for (int kind = 0; kind < 4; kind++) {
            x.flyer(kind, 5050, 0, 5, 1, 12);
        }
        for (int ahead = 0; ahead <= 12; ahead++) {
            x.wind(0, 4, 0, ahead);
            x.wind(0, 5, 0, 6);
            x.wind(0, 6, 0, 12 - ahead);
            boolean steady = Math.abs(ahead - 6) <= 3;
            Due.due("kite", x.flies(0, 5), 1);
            Due.due("stunt after " + ahead, x.flies(1, 5), steady ? 1 : 0);
            Due.due("box", x.flies(2, 5), 1);
            Due.due("fighter after " + ahead, x.flies(3, 5), steady ? 1 : 0);
        }
        x.wind(0, 0, 0, 12);
        Due.due("minute 0 has none ahead", x.flies(1, 0), 1);
        Due.due("minute 1 has", x.flies(1, 1), 0);
        x.wind(0, 19, 0, 9);
        Due.due("a minute of another height", x.flies(3, 19), 0);
        x.wind(0, 18, 0, 6);
        Due.due("a change of 3", x.flies(3, 19), 1);
    }

    /** Promise 10. */
    private static void kite() {
        KiteMeet x = new KiteMeet();
        x.flyer(0, 2030, 2, 40, 1, 1 * 16 + 12);
        int[][] want = {
            {60, 30}, {60, 70}, {20, 70}, {-20, 70}, {-20, 30}, {-20, -10}, {20, -10}, {60, -10},
        };
        for (int d = 0; d < 8; d++) {
            x.wind(2, d, d, 1);
            Due.due("x in direction " + d, x.kite(0, d, false), want[d][0]);
            Due.due("y in direction " + d, x.kite(0, d, true), want[d][1]);
        }
        Due.due("no force", x.kite(0, 8, false), Due.NONE);
        Due.due("minute 20", x.kite(0, 20, false), Due.BEYOND);
        Due.due("minute -1", x.kite(0, -1, false), Due.BEYOND);
        Due.due("flyer 1", x.kite(1, 0, false), Due.BEYOND);
        Due.due("flyer -1", x.kite(-1, 0, true), Due.BEYOND);
    }

    /** Promise 11. */
    private static void meet() {
        KiteMeet x = new KiteMeet();
        x.flyer(0, 5050, 0, 10, 2, 16 + 12);
        x.flyer(0, 5054, 0, 10, 3, 16 + 12);
        x.flyer(0, 5050, 1, 10, 9, 12);
        Due.due("nothing flies", x.meet(0, 1, 0), Due.NONE);
        x.wind(0, 7, 0, 5);
        x.wind(0, 12, 4, 5);
        Due.due("from 0", x.meet(0, 1, 0), 7);
        Due.due("from 7", x.meet(1, 0, 7), 7);
        Due.due("from 8", x.meet(0, 1, 8), 12);
        Due.due("from 13", x.meet(0, 1, 13), Due.NONE);
        x.wind(0, 19, 2, 1);
        Due.due("the last minute", x.meet(0, 1, 19), 19);
        Due.due("other heights", x.meet(0, 2, 0), Due.NONE);
        x.go(1, 5055);
        Due.due("y differs by both spans", x.meet(0, 1, 0), Due.NONE);
        x.go(1, 5450);
        Due.due("x differs by less", x.meet(0, 1, 0), 7);
        x.go(1, 4550);
        Due.due("x differs by both spans", x.meet(0, 1, 0), Due.NONE);
        x.go(1, 4646);
        Due.due("both differ by less", x.meet(0, 1, 0), 7);
        x.line(1, 14);
        Due.due("a longer line, x first nearer", x.meet(0, 1, 0), 7);
        Due.due("one", x.meet(1, 1, 0), Due.SIZE);
        Due.due("BEYOND is asked ahead of SIZE", x.meet(1, 1, 20), Due.BEYOND);
        Due.due("none of that number", x.meet(3, 3, 0), Due.BEYOND);
        Due.due("no such other", x.meet(0, 3, 0), Due.BEYOND);
        Due.due("no such flyer", x.meet(-1, 0, 0), Due.BEYOND);
        Due.due("minute -1", x.meet(0, 1, -1), Due.BEYOND);
        meetEndsWithMinute19();
    }

    /** The winds of the next height are none of this one's later minutes. */
    private static void meetEndsWithMinute19() {
        KiteMeet x = new KiteMeet();
        for (int height = 0; height < 4; height++) {
            x.flyer(0, 5050, height, 10, 2, 16 + 12);
            x.flyer(0, 5050, height, 10, 2, 16 + 12);
        }
        x.wind(1, 0, 0, 5);
        Due.due("height 0", x.meet(0, 1, 3), Due.NONE);
        Due.due("height 1", x.meet(2, 3, 0), 0);
        Due.due("height 3", x.meet(6, 7, 3), Due.NONE);
    }

    /** Promise 12. */
    private static void meets() {
        KiteMeet x = new KiteMeet();
        Due.due("no flyers", x.meets(0), 0);
        for (int i = 0; i < 8; i++) {
            x.flyer(0, 5050 + i, 0, 10, 1, 12);
        }
        Due.due("each and the next", x.meets(0), 7);
        x.go(3, 0);
        Due.due("without the fourth", x.meets(0), 5);
        x.wind(0, 4, 0, 12);
        Due.due("all fly", x.meets(4), 5);
        KiteMeet y = new KiteMeet();
        y.flyer(0, 5050, 0, 10, 1, 12);
        y.flyer(0, 5050, 0, 10, 1, 16 + 12);
        Due.due("only the first flies", y.meets(0), 0);
        y.wind(0, 1, 0, 1);
        Due.due("both fly", y.meets(1), 1);
        y.flyer(2, 5050, 0, 10, 1, 12);
        Due.due("the third flies in 1, not in 0", y.meets(1) * 10 + y.meets(0), 30);
        Due.due("minute 20", x.meets(20), Due.BEYOND);
        Due.due("minute -1", x.meets(-1), Due.BEYOND);
    }

    /** Promise 13. */
    private static void field() {
        KiteMeet x = new KiteMeet();
        Due.due("no flyers", x.field(0), 0);
        x.flyer(0, 5050, 0, 10, 1, 16 + 12);
        Due.due("none flies", x.field(0), 0);
        for (int i = 1; i < 8; i++) {
            x.flyer(0, 5050 + i, 0, 10, 1, 16 + 12);
        }
        x.wind(0, 3, 5, 1);
        Due.due("a chain of eight", x.field(3), 0b01010101);
        x.go(7, 0);
        Due.due("a chain of seven and one apart", x.field(3), 0b11010101);
        Due.due("minute 20", x.field(20), Due.BEYOND);
        Due.due("minute -1", x.field(-1), Due.BEYOND);
    }

    private static void fieldTakesLeastBits() {
        KiteMeet x = new KiteMeet();
        x.flyer(0, 5050, 0, 10, 9, 12);
        x.flyer(0, 5050, 0, 10, 9, 12);
        x.flyer(0, 5050, 0, 10, 9, 12);
        Due.due("one of three", x.field(0), 1);
        x.flyer(0, 9090, 0, 10, 1, 12);
        x.flyer(0, 9090, 0, 10, 1, 12);
        Due.due("one of three, one of two", x.field(0), 0b01001);
        x.flyer(0, 9090, 1, 10, 1, 16 + 12);
        Due.due("one that does not fly", x.field(0), 0b01001);
        x.wind(1, 0, 0, 1);
        Due.due("one at another height", x.field(0), 0b101001);
        KiteMeet star = new KiteMeet();
        star.flyer(0, 5050, 0, 10, 5, 12);
        star.flyer(0, 5044, 0, 10, 2, 12);
        star.flyer(0, 5056, 0, 10, 2, 12);
        Due.due("two about one", star.field(0), 0b110);
        KiteMeet last = new KiteMeet();
        last.flyer(0, 5044, 0, 10, 2, 12);
        last.flyer(0, 5056, 0, 10, 2, 12);
        last.flyer(0, 5050, 0, 10, 5, 12);
        Due.due("the last meets both others", last.field(0), 0b011);
        last.go(2, 5060);
        Due.due("the last meets one", last.field(0), 0b011);
        last.go(2, 9090);
        Due.due("the last meets none", last.field(0), 0b111);
    }

    /** Promise 14. */
    private static void best() {
        KiteMeet x = new KiteMeet();
        Due.due("no flyers", x.best(3, 9), 3);
        x.flyer(0, 1010, 0, 1, 1, 16 + 12);
        x.flyer(0, 2020, 0, 1, 1, 5 * 16 + 12);
        x.wind(0, 4, 0, 1);
        x.wind(0, 6, 0, 5);
        x.wind(0, 8, 0, 5);
        Due.due("all", x.best(0, 19), 6);
        Due.due("up to 5", x.best(0, 5), 4);
        Due.due("from 7", x.best(7, 19), 8);
        Due.due("to is looked at, too", x.best(0, 6), 6);
        Due.due("from is looked at, too", x.best(8, 19), 8);
        Due.due("one", x.best(19, 19), 19);
        Due.due("from above to", x.best(6, 5), Due.BEYOND);
        Due.due("from -1", x.best(-1, 5), Due.BEYOND);
        Due.due("to 20", x.best(0, 20), Due.BEYOND);
        x.go(1, 1010);
        Due.due("most that do not meet", x.best(0, 19), 4);
    }
}
