import java.util.function.Consumer;

/** The bounds that the document names in promises 23 to 25: both sides of each. */
public final class FightsBoundsTest {
    public static void main(String[] args) {
        sharpFlyer();
        sharpness();
        wear();
        wearByEachWalk();
        wearByFighters();
        lostFrom20On();
        lostOfTheRow();
        lostOnesStay();
        Due.end();
    }

    /** A row of n where four flyers are told. */
    private static Consumer<KiteMeet> rowOf(int n) {
        return x -> {
            Bound.scene(x);
            x.row(n);
        };
    }

    /** A row of 2 of which two pass one another as often, with these sharpnesses. */
    private static KiteMeet fought(int sharp, int otherSharp, int times) {
        KiteMeet x = new KiteMeet();
        x.row(2);
        x.sharp(0, sharp);
        x.sharp(1, otherSharp);
        for (int i = 0; i < times; i++) {
            Due.holds("walk " + i, x.walk(0, i % 2 == 0) >= 0);
        }
        return x;
    }

    /** 'of a FLYER of THE ROW'; 'BEYOND'. Whether a flyer is told is not asked for. */
    private static void sharpFlyer() {
        for (int n = 2; n <= 5; n++) {
            Bound.rangeBehind("flyer of " + n, rowOf(n), 0, n - 1, (x, v) -> x.sharp(v, 9));
        }
        Bound.rangeBehind("not told", x -> { }, 0, 2, (x, v) -> x.sharp(v, 0));
    }

    /** 'SHARPNESS (0 to 9; 0 at first)'; 'becomes v: what it was'. */
    private static void sharpness() {
        Bound.range("v", 0, 9, (x, v) -> x.sharp(0, v));
        Bound.range("v of the last", 0, 9, (x, v) -> x.sharp(3, v));
        KiteMeet x = new KiteMeet();
        Due.due("at first", x.sharp(0, 9), 0);
        Due.due("was 9", x.sharp(0, 9), 9);
        Due.due("was 9", x.sharp(0, 0), 9);
        Due.due("was 0", x.sharp(0, 1), 0);
        Due.due("another's", x.sharp(1, 1), 0);
        Bound.refused("neither", y -> y.sharp(4, 10), Due.BEYOND);
    }

    /** 'BEYOND: it is not of THE ROW.' */
    private static void wear() {
        for (int n = 2; n <= 5; n++) {
            Bound.rangeBehind("flyer of " + n, rowOf(n), 0, n - 1, (x, v) -> x.wear(v));
        }
        Bound.rangeBehind("not told", x -> { }, 0, 2, (x, v) -> x.wear(v));
    }

    /** 'By each WALK each of the two LINES gets as much more WEAR as the other's SHARPNESS'. */
    private static void wearByEachWalk() {
        KiteMeet none = fought(0, 0, 40);
        Due.due("sharpness 0", none.wear(0) + none.wear(1) + none.lost(), 0);
        KiteMeet least = fought(1, 0, 19);
        Due.due("its own is not asked for", least.wear(0), 0);
        Due.due("sharpness 1", least.wear(1), 19);
        KiteMeet most = fought(9, 9, 2);
        Due.due("sharpness 9", most.wear(0) * 100 + most.wear(1), 1818);
        most.walk(1, true);
        Due.due("a refused walk wears nothing", most.wear(0), 18);
        most.walk(0, true);
        most.walk(0, true);
        Due.due("nor does one of lost ones", most.wear(0), 27);
        KiteMeet x = new KiteMeet();
        x.sharp(2, 9);
        x.walk(0, true);
        Due.due("one that doesn't walk", x.wear(0) + x.wear(1), 0);
    }

    /** A row of 2, of which flyer 0 is told with a kind and has a sharpness; one walk. */
    private static KiteMeet foughtBy(int kind, int sharp) {
        KiteMeet x = new KiteMeet();
        x.flyer(kind, 0, 0, 1, 1, 0);
        x.row(2);
        x.sharp(0, sharp);
        x.sharp(1, 1);
        x.walk(0, true);
        return x;
    }

    /** '(of FLYERS that are told with a FIGHTER twice that)': of no other kind. */
    private static void wearByFighters() {
        for (int kind = 0; kind < 4; kind++) {
            for (int sharp : new int[] {0, 1, 9}) {
                KiteMeet x = foughtBy(kind, sharp);
                Due.due("by kind " + kind, x.wear(1), kind == 3 ? 2 * sharp : sharp);
                Due.due("by one not told", x.wear(0), 1);
            }
        }
        KiteMeet other = new KiteMeet();
        other.flyer(0, 0, 0, 1, 1, 0);
        other.flyer(3, 0, 0, 1, 1, 0);
        other.sharp(0, 4);
        other.sharp(1, 4);
        other.walk(0, true);
        Due.due("the FIGHTER is the second", other.wear(0) * 10 + other.wear(1), 84);
        other.walk(0, true);
        Due.due("and then in the first place", other.wear(0) * 10 + other.wear(1), 168);
        KiteMeet last = new KiteMeet();
        for (int f = 0; f < 5; f++) {
            last.flyer(f == 4 ? 3 : 2, 0, 0, 1, 1, 0);
        }
        last.row(5);
        last.sharp(4, 2);
        last.walk(3, true);
        Due.due("the fifth", last.wear(3), 4);
    }

    /** 'A LINE with a WEAR of 20 or more is cut: its FLYER is LOST'. */
    private static void lostFrom20On() {
        KiteMeet nearly = fought(1, 0, 19);
        Due.due("19", nearly.lost(), 0);
        Due.holds("19 can walk", nearly.walk(0, true) >= 0);
        Due.due("20", nearly.wear(1), 20);
        Due.due("20 is lost", nearly.lost(), 2);
        Due.due("20 can't walk", nearly.walk(0, true), Due.LOST);
        KiteMeet more = fought(0, 7, 3);
        Due.due("21", more.wear(0), 21);
        Due.due("21 is lost", more.lost(), 1);
        Due.due("21 can't walk", more.walk(0, true), Due.LOST);
        KiteMeet both = fought(5, 4, 4);
        Due.due("16 and 20", both.wear(0) * 100 + both.wear(1), 1620);
        Due.due("one is lost", both.lost(), 2);
        Due.due("both are lost", fought(4, 4, 5).lost(), 3);
        KiteMeet fighter = foughtBy(3, 9);
        fighter.sharp(0, 1);
        Due.due("18", fighter.lost(), 0);
        fighter.walk(0, true);
        Due.due("18 and 2", fighter.lost(), 2);
    }

    /** 'Which FLYERS of THE ROW are LOST, as bits': by flyers, not by places. */
    private static void lostOfTheRow() {
        Bound.takenBehind("none at first", x -> { }, KiteMeet::lost, 0);
        Bound.taken("none", KiteMeet::lost, 0);
        for (int f = 0; f < 5; f++) {
            KiteMeet x = new KiteMeet();
            x.row(5);
            int other = f == 4 ? 3 : f + 1;
            x.sharp(other, 9);
            for (int i = 0; i < 3; i++) {
                x.walk(Math.min(f, other), true);
            }
            Due.due("flyer " + f, x.lost(), 1 << f);
        }
        KiteMeet all = new KiteMeet();
        all.row(4);
        for (int k = 0; k < 4; k++) {
            all.sharp(k, 9);
        }
        for (int i = 0; i < 3; i++) {
            all.walk(0, true);
            all.walk(2, true);
        }
        Due.due("all four", all.lost(), 15);
        all.row(2);
        Due.due("none of a new row", all.lost(), 0);
        all.undo();
        Due.due("all four again", all.lost(), 15);
    }

    /** 'no WALK with a LOST one can be. (WORDS stay.)' Sharpness can still be told. */
    private static void lostOnesStay() {
        Consumer<KiteMeet> before = x -> {
            Bound.scene(x);
            x.row(3);
            x.sharp(0, 9);
            x.walk(0, true);
            x.walk(0, true);
            x.walk(0, true);
        };
        Bound.takenBehind("words stay", before, KiteMeet::tangle, 10);
        Bound.takenBehind("letters stay", before, x -> x.letter(0, -1), 7);
        Bound.takenBehind("places stay", before, x -> x.at(0), 1);
        Bound.takenBehind("one is lost", before, KiteMeet::lost, 2);
        Bound.refusedBehind("no walk", before, x -> x.walk(0, true), Due.LOST);
        Bound.refusedBehind("no walk back", before, x -> x.walk(0, false), Due.LOST);
        Bound.takenBehind("a walk of the others", before, x -> x.walk(1, true) - x.tangle(), 0);
        Bound.takenBehind("sharpness of a lost one", before, x -> x.sharp(1, 9), 0);
        Bound.takenBehind("fewest", before, x -> x.fewest(-1), 3);
    }
}
