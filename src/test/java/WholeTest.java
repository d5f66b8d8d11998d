/** Promises 30 and 31: undo, and what is told of all. */
public final class WholeTest {
    public static void main(String[] args) {
        undoOfEachAct();
        undoOfRow();
        undoKeepsTwenty();
        undoAndActAgain();
        undoLeavesSheets();
        all();
        findingsAreCounted();
        Due.end();
    }

    /** Promise 30. */
    private static void undoOfEachAct() {
        KiteMeet x = new KiteMeet();
        x.flyer(1, 1234, 2, 5, 6, 7);
        x.go(0, 4321);
        x.line(0, 33);
        x.wind(1, 2, 3, 4);
        x.sharp(1, 7);
        x.walk(0, true);
        x.sheet(0, 8, 2);
        x.put(0, 0, 9);
        x.put(0, 1, 8);
        x.gusts(1, 1, 0);
        Due.due("undo gusts", x.undo(), 6);
        Due.due("force", x.windAt(1, 1, false), 0);
        Due.due("force", x.windAt(1, 2, false), 4);
        Due.due("undo walk", x.undo(), 5);
        Due.due("at", x.at(0), 0);
        Due.due("untangled", x.all(3), 1);
        Due.due("wear", x.wear(0), 0);
        Due.due("twist", x.twist(0, 1), 0);
        Due.due("walks", x.all(2), 0);
        Due.due("undo sharp", x.undo(), 4);
        Due.due("sharp", x.sharp(1, 0), 0);
        Due.due("undo sharp that changed nothing", x.undo(), 4);
        Due.due("undo wind", x.undo(), 3);
        Due.due("force", x.windAt(1, 2, false), 0);
        Due.due("direction", x.windAt(1, 2, true), 0);
        Due.due("undo line", x.undo(), 2);
        Due.due("line", x.of(0, 4), 5);
        Due.due("undo go", x.undo(), 1);
        Due.due("x", x.of(0, 1), 12);
        Due.due("undo flyer", x.undo(), 0);
        Due.due("no flyer", x.of(0, 0), Due.BEYOND);
        Due.due("none", x.undo(), Due.NONE);
        Due.due("a flyer anew", x.flyer(0, 0, 0, 1, 1, 0), 0);
    }

    private static void undoOfRow() {
        KiteMeet x = new KiteMeet();
        x.sharp(2, 3);
        x.walk(1, true);
        x.walk(1, true);
        x.walk(0, false);
        x.row(5);
        x.walk(3, true);
        x.row(2);
        Due.due("undo row", x.undo(), 6);
        Due.due("size", x.all(1), 5);
        Due.due("at", x.at(3), 4);
        Due.due("undo walk", x.undo(), 5);
        Due.due("undo row", x.undo(), 4);
        Due.due("size", x.all(1), 3);
        Due.due("walks", x.all(2), 3);
        Due.due("twist", x.twist(1, 2), 2);
        Due.due("wear", x.wear(1), 6);
        Due.due("at", x.at(0), 1);
        Due.due("letters", x.letter(1, -1) * 100 + x.letter(2, -1), 1103);
        Due.due("sharpness", x.sharp(2, 0), 3);
    }

    private static void undoKeepsTwenty() {
        KiteMeet x = new KiteMeet();
        for (int i = 0; i < 25; i++) {
            x.wind(0, 0, 0, i % 13);
        }
        for (int i = 0; i < 20; i++) {
            Due.due("undo " + i, x.undo(), 19 - i);
            Due.due("force", x.windAt(0, 0, false), (23 - i) % 13);
        }
        Due.due("no more", x.undo(), Due.NONE);
        Due.due("force", x.windAt(0, 0, false), 4);
    }

    private static void undoAndActAgain() {
        KiteMeet x = new KiteMeet();
        for (int i = 0; i < 30; i++) {
            x.wind(0, 0, 0, 1);
        }
        for (int i = 0; i < 5; i++) {
            x.undo();
        }
        x.wind(0, 0, 0, 2);
        x.wind(0, 0, 0, 3);
        Due.due("15 and 2", x.undo(), 16);
        Due.due("force", x.windAt(0, 0, false), 2);
        Due.due("findings are no acts", x.wind(0, 0, 0, 13), Due.BEYOND);
        Due.due("undo", x.undo(), 15);
        Due.due("force", x.windAt(0, 0, false), 1);
    }

    private static void undoLeavesSheets() {
        KiteMeet x = new KiteMeet();
        x.wind(0, 0, 0, 1);
        x.sheet(0, 8, 1);
        x.put(0, 0, 6);
        x.sheet(1, 8, 1);
        x.copy(0, 0, 1, 0, 1);
        Due.due("undo the wind", x.undo(), 0);
        Due.due("sheets are no acts", x.undo(), Due.NONE);
        Due.due("gusts", x.gusts(0, 0, 1), 1);
        Due.due("force", x.windAt(0, 0, false), 6);
    }

    /** Promise 31. */
    private static void all() {
        KiteMeet x = new KiteMeet();
        x.flyer(0, 0, 0, 1, 1, 0);
        x.flyer(0, 0, 0, 1, 1, 0);
        x.row(4);
        x.walk(2, true);
        x.walk(2, true);
        x.walk(2, false);
        Due.due("flyers", x.all(0), 2);
        Due.due("row", x.all(1), 4);
        Due.due("walks", x.all(2), 3);
        Due.due("tangled", x.all(3), 0);
        x.walk(2, false);
        Due.due("untangled", x.all(3), 1);
        x.undo();
        Due.due("walks", x.all(2), 3);
        Due.due("findings", x.all(4), 0);
        Due.due("what 5", x.all(5), Due.BEYOND);
        Due.due("what -1", x.all(-1), Due.BEYOND);
        Due.due("findings", x.all(4), 2);
    }

    /** Each call that answers a finding counts, and an undo takes none back. */
    private static void findingsAreCounted() {
        KiteMeet x = new KiteMeet();
        x.flyer(-1, 0, 0, 1, 1, 0);
        x.as(0, 0);
        x.of(0, 0);
        x.go(0, 0);
        x.line(0, 1);
        x.wind(-1, 0, 0, 0);
        x.windAt(-1, 0, true);
        x.flies(0, 0);
        x.kite(0, 0, true);
        x.meet(0, 1, 0);
        x.meets(-1);
        x.field(-1);
        x.best(-1, 0);
        Due.due("flyers, winds, air", x.all(4), 13);
        x.row(0);
        x.walk(-1, true);
        x.at(-1);
        x.letter(-1, 0);
        x.twist(0, 0);
        x.fewest(0);
        x.same(3, 0, 0);
        x.sharp(-1, 0);
        x.wear(-1);
        Due.due("row, fights", x.all(4), 22);
        x.sheet(-1, 8, 0);
        x.put(0, 0, 0);
        x.copy(0, 0, 0, 0, 0);
        x.gusts(0, 0, 0);
        x.undo();
        x.all(5);
        Due.due("sheets, the whole", x.all(4), 28);
        x.wind(0, 0, 0, 1);
        x.undo();
        x.tangle();
        x.lost();
        Due.due("as it was", x.all(4), 28);
        laterFindingsAreCounted();
    }

    /** Those that a call asks behind its first one. */
    private static void laterFindingsAreCounted() {
        KiteMeet x = new KiteMeet();
        x.flyer(0, 0, 0, 0, 1, 0);
        x.flyer(0, 0, 0, 1, 1, 13);
        x.flyer(0, 0, 0, 1, 1, 16);
        for (int i = 0; i < 9; i++) {
            x.flyer(0, 0, 0, 1, 1, 16 + 2);
        }
        x.as(0, 3);
        x.wind(0, 0, 8, 0);
        x.kite(0, 0, true);
        x.meet(0, 0, 0);
        x.meet(0, 1, 0);
        Due.due("flyers, winds, air", x.all(4), 9);
        x.row(2);
        for (int i = 0; i < 30; i++) {
            x.walk(0, true);
        }
        x.undo();
        x.sharp(0, 9);
        x.walk(0, false);
        x.walk(0, false);
        x.walk(0, false);
        x.walk(0, false);
        x.letter(0, 60);
        x.twist(-1, 0);
        x.fewest(-2);
        Due.due("row", x.all(4), 14);
        x.same(1, 0, 0);
        x.sheet(0, 8, 30);
        x.same(2, 0, 0);
        x.put(0, 0, 13);
        x.same(2, 0, 0);
        x.gusts(0, 19, 0);
        x.sheet(0, 8, 1);
        x.put(0, 0, 13);
        x.gusts(0, 0, 0);
        x.gusts(0, 20, 0);
        x.sheet(0, 8, -1);
        x.sheet(0, 8, 41);
        x.put(-1, 0, 0);
        x.put(0, -1, 0);
        x.copy(-1, 0, 0, 0, 0);
        x.copy(0, 0, 0, 0, 2);
        x.sheet(1, 16, 1);
        x.copy(0, 0, 1, 0, 0);
        Due.due("sheets", x.all(4), 14 + 13);
    }
}
