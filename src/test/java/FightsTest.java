/** Promises 23 to 25: sharpness, wear and who is lost. */
public final class FightsTest {
    public static void main(String[] args) {
        sharp();
        wear();
        wearByFighters();
        lost();
        Due.end();
    }

    /** Promise 23. */
    private static void sharp() {
        KiteMeet x = new KiteMeet();
        Due.due("sharp", x.sharp(0, 9), 0);
        Due.due("sharp", x.sharp(0, 0), 9);
        Due.due("sharp", x.sharp(2, 5), 0);
        Due.due("v 10", x.sharp(0, 10), Due.BEYOND);
        Due.due("v -1", x.sharp(0, -1), Due.BEYOND);
        Due.due("flyer 3 of 3", x.sharp(3, 1), Due.BEYOND);
        Due.due("flyer -1", x.sharp(-1, 1), Due.BEYOND);
        Due.due("as it was", x.sharp(0, 1), 0);
        x.row(5);
        Due.due("flyer 4 of 5", x.sharp(4, 1), 0);
        Due.due("a new row's lines are not sharp", x.sharp(2, 1), 0);
    }

    /** Promise 24. */
    private static void wear() {
        KiteMeet x = new KiteMeet();
        x.sharp(0, 3);
        x.sharp(1, 4);
        x.walk(0, true);
        Due.due("wear of 0", x.wear(0), 4);
        Due.due("wear of 1", x.wear(1), 3);
        Due.due("wear of 2", x.wear(2), 0);
        x.walk(1, false);
        Due.due("wear of 0", x.wear(0), 4);
        Due.due("wear of 2", x.wear(2), 3);
        x.walk(1, true);
        Due.due("wear of 2", x.wear(2), 6);
        Due.due("wear of 1", x.wear(1), 3);
        Due.due("flyer 3", x.wear(3), Due.BEYOND);
        Due.due("flyer -1", x.wear(-1), Due.BEYOND);
    }

    /** Fighters wear twice as much; neither stunts nor flyers that are not told do. */
    private static void wearByFighters() {
        KiteMeet x = new KiteMeet();
        x.sharp(0, 1);
        x.sharp(1, 2);
        x.walk(0, true);
        Due.due("not told", x.wear(1), 1);
        x.flyer(3, 0, 0, 1, 1, 0);
        x.walk(0, true);
        Due.due("a fighter", x.wear(1), 3);
        Due.due("by one not told", x.wear(0), 4);
        x.flyer(1, 0, 0, 1, 1, 0);
        x.walk(0, true);
        Due.due("by a stunt", x.wear(0), 6);
        x.undo();
        x.undo();
        x.flyer(3, 0, 0, 1, 1, 0);
        x.walk(0, true);
        Due.due("by a fighter", x.wear(0), 8);
        Due.due("a fighter", x.wear(1), 5);
        x.flyer(3, 0, 0, 1, 1, 0);
        x.undo();
        x.sharp(2, 9);
        x.walk(1, true);
        Due.due("by one not told any more", x.wear(1) + x.wear(0), 8 + 5 + 9);
    }

    /** Promise 25. */
    private static void lost() {
        KiteMeet x = new KiteMeet();
        x.row(5);
        x.sharp(4, 9);
        x.sharp(3, 5);
        x.walk(3, true);
        x.walk(3, true);
        x.sharp(4, 1);
        x.walk(3, true);
        Due.due("19 and 15", x.wear(3) * 100 + x.wear(4), 1915);
        Due.due("none is lost", x.lost(), 0);
        x.walk(3, true);
        Due.due("20 and 20", x.wear(3) * 100 + x.wear(4), 2020);
        Due.due("both are lost", x.lost(), 0b11000);
        Due.due("no walk of both", x.walk(3, true), Due.LOST);
        Due.due("nor of one", x.walk(2, true), Due.LOST);
        Due.due("but of others", x.walk(1, true), 14 + 2);
        Due.due("words stay", x.letter(3, -1), 9);
        x.undo();
        x.undo();
        Due.due("given back", x.lost(), 0);
        Due.due("wear given back", x.wear(3), 19);
        x.walk(3, true);
        x.row(5);
        Due.due("a new row", x.lost(), 0);
    }
}
