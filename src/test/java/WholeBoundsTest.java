import java.util.ArrayList;
import java.util.List;
import java.util.function.Consumer;
import java.util.function.ToIntFunction;

/** The bounds that the document names in promises 30 and 31, and of an object's calls. */
public final class WholeBoundsTest {
    public static void main(String[] args) {
        undoNone();
        undoOfEachAct();
        undoOfAllThatAWalkChanges();
        undoOfActsThatChangedNothing();
        undoOfNoOtherCall();
        undoOfTwentyAtMost();
        undoIsItselfNoAct();
        allWhat();
        allOfFlyers();
        allOfTheRow();
        allOfFindings();
        eachFindingIsCountedOnce();
        call512();
        Due.end();
    }

    /** 'NONE': where no act was, and where all are undone. */
    private static void undoNone() {
        Bound.refusedBehind("no act", x -> { }, KiteMeet::undo, Due.NONE);
        Bound.takenBehind("one act", x -> x.row(3), KiteMeet::undo, 0);
        Bound.refusedBehind("one act, undone", x -> {
            x.row(5);
            x.undo();
        }, KiteMeet::undo, Due.NONE);
        Bound.takenBehind("15 acts", Bound::scene, KiteMeet::undo, 14);
    }

    /** Each act, in the document's order; 'questions' has for each one that it changes. */
    private static List<ToIntFunction<KiteMeet>> acts() {
        List<ToIntFunction<KiteMeet>> acts = new ArrayList<>();
        acts.add(x -> x.flyer(0, 0, 0, 1, 1, 12));
        acts.add(x -> x.go(0, 9999));
        acts.add(x -> x.line(0, 40));
        acts.add(x -> x.wind(0, 0, 7, 12));
        acts.add(x -> x.row(5));
        acts.add(x -> x.walk(0, true));
        acts.add(x -> x.sharp(0, 9));
        acts.add(x -> x.gusts(0, 0, 0));
        return acts;
    }

    private static List<ToIntFunction<KiteMeet>> questions() {
        List<ToIntFunction<KiteMeet>> questions = new ArrayList<>();
        questions.add(x -> x.all(0));
        questions.add(x -> x.of(0, 1));
        questions.add(x -> x.of(0, 4));
        questions.add(x -> x.windAt(0, 0, true));
        questions.add(x -> x.all(1));
        questions.add(x -> x.all(2));
        questions.add(x -> x.sharp(0, 5));
        questions.add(x -> x.windAt(0, 2, false));
        return questions;
    }

    /** 'The latest act that changed the field (flyer, go, line, wind, row, walk, sharp, gusts)'. */
    private static void undoOfEachAct() {
        for (int i = 0; i < acts().size(); i++) {
            ToIntFunction<KiteMeet> question = questions().get(i);
            int was = asked(x -> { }, question);
            Consumer<KiteMeet> act = acts().get(i)::applyAsInt;
            Due.holds("act " + i + " changes it", asked(act, question) != was);
            Due.due("act " + i + " is kept", asked(act, KiteMeet::undo), 15);
            Due.due("act " + i + " is undone", asked(act.andThen(KiteMeet::undo), question), was);
        }
    }

    private static int asked(Consumer<KiteMeet> act, ToIntFunction<KiteMeet> question) {
        KiteMeet x = new KiteMeet();
        Bound.scene(x);
        act.accept(x);
        return question.applyAsInt(x);
    }

    /** Words, places, twist, wear and the count of walks all come back. */
    private static void undoOfAllThatAWalkChanges() {
        KiteMeet x = new KiteMeet();
        x.row(5);
        x.sharp(3, 4);
        x.sharp(4, 7);
        x.walk(3, true);
        for (int i = 0; i < 3; i++) {
            dueOneWalk(x);
            Due.due("a second walk", x.walk(3, i != 1), i == 1 ? 0 : 6);
            Due.due("is undone", x.undo(), 4);
        }
        dueOneWalk(x);
    }

    private static void dueOneWalk(KiteMeet x) {
        Due.due("at 3", x.at(3), 4);
        Due.due("at 4", x.at(4), 3);
        Due.due("twist", x.twist(3, 4), 1);
        Due.due("wear of 3", x.wear(3), 7);
        Due.due("wear of 4", x.wear(4), 4);
        Due.due("letters at 3", x.letter(3, -1), 3);
        Due.due("the first letter at 3", x.letter(3, 0), 3);
        Due.due("letters at 4", x.letter(4, -1), 1);
        Due.due("the letter at 4", x.letter(4, 0), 3);
        Due.due("tangle", x.tangle(), 2);
        Due.due("walks", x.all(2), 1);
        Due.due("untangled", x.all(3), 0);
    }

    /** '(.. also such as changed nothing.)' */
    private static void undoOfActsThatChangedNothing() {
        KiteMeet x = new KiteMeet();
        x.flyer(0, 4321, 0, 12, 1, 12);
        x.sheet(0, 8, 0);
        x.sheet(1, 8, 20);
        List<ToIntFunction<KiteMeet>> acts = new ArrayList<>();
        acts.add(y -> y.go(0, 4321));
        acts.add(y -> y.line(0, 12));
        acts.add(y -> y.wind(3, 19, 0, 0));
        acts.add(y -> y.row(3));
        acts.add(y -> y.sharp(2, 0));
        acts.add(y -> y.gusts(0, 19, 0));
        acts.add(y -> y.gusts(0, 0, 1));
        for (ToIntFunction<KiteMeet> act : acts) {
            act.applyAsInt(x);
            Due.due("one more than the flyer", x.undo(), 1);
            act.applyAsInt(x);
            act.applyAsInt(x);
            Due.due("twice", x.undo(), 2);
            Due.due("twice", x.undo(), 1);
            Due.due("the flyer is there", x.all(0), 1);
        }
        Due.due("the flyer", x.undo(), 0);
        Due.due("no flyer", x.all(0), 0);
    }

    /** Neither questions nor what is done to sheets can be undone, and undo leaves sheets alone. */
    private static void undoOfNoOtherCall() {
        KiteMeet x = new KiteMeet();
        x.flyer(0, 0, 0, 1, 1, 12);
        x.flyer(0, 0, 0, 1, 1, 12);
        x.as(0, 0);
        x.of(0, 0);
        x.windAt(0, 0, true);
        x.flies(0, 0);
        x.kite(0, 0, true);
        x.meet(0, 1, 0);
        x.meets(0);
        x.field(0);
        x.best(0, 19);
        x.at(0);
        x.letter(0, 0);
        x.tangle();
        x.twist(0, 1);
        x.fewest(-1);
        x.wear(0);
        x.lost();
        x.all(0);
        x.sheet(0, 8, 2);
        x.put(0, 0, 2);
        x.copy(0, 0, 0, 1, 1);
        x.same(3, 0, 0);
        Due.due("no finding was told", x.all(4), 0);
        Due.due("the second flyer", x.undo(), 1);
        Due.due("the first flyer", x.undo(), 0);
        Due.due("none", x.undo(), Due.NONE);
        Due.due("the sheet has its numbers", x.gusts(0, 0, 0), 2);
        Due.due("both", x.windAt(0, 0, false) * 10 + x.windAt(0, 1, false), 22);
    }

    /** 'The latest 20 are kept', of 19, 20, 21 and many. */
    private static void undoOfTwentyAtMost() {
        for (int acts : new int[] {1, 19, 20, 21, 39, 40, 41, 100}) {
            KiteMeet x = new KiteMeet();
            for (int i = 1; i <= acts; i++) {
                x.wind(0, 0, i % 8, i % 13);
            }
            int kept = Math.min(acts, 20);
            for (int i = 1; i <= kept; i++) {
                Due.due(acts + " acts, undo " + i, x.undo(), kept - i);
                Due.due("force", x.windAt(0, 0, false), (acts - i) % 13);
                Due.due("direction", x.windAt(0, 0, true), (acts - i) % 8);
            }
            Due.due("no more", x.undo(), Due.NONE);
            Due.due("force stays", x.windAt(0, 0, false), (acts - kept) % 13);
            Due.due("an act anew", x.wind(0, 0, 7, 12), 0);
            Due.due("is undone", x.undo(), 0);
            Due.due("force is back", x.windAt(0, 0, false), (acts - kept) % 13);
        }
    }

    /** An undo can't be undone: behind it come older acts. */
    private static void undoIsItselfNoAct() {
        KiteMeet x = new KiteMeet();
        x.wind(0, 0, 0, 1);
        x.wind(0, 0, 0, 2);
        x.wind(0, 0, 0, 3);
        Due.due("the third", x.undo(), 2);
        Due.due("the second", x.undo(), 1);
        Due.due("force", x.windAt(0, 0, false), 1);
        x.wind(0, 0, 0, 4);
        Due.due("the new second", x.undo(), 1);
        Due.due("force", x.windAt(0, 0, false), 1);
        Due.due("the first", x.undo(), 0);
        Due.due("force", x.windAt(0, 0, false), 0);
    }

    /** 'BEYOND: another what.' */
    private static void allWhat() {
        Bound.range("what", 0, 4, (x, v) -> x.all(v));
        Bound.rangeBehind("what of a new one", x -> { }, 0, 4, (x, v) -> x.all(v));
    }

    /** '0 FLYERS': none to 8, and what an undo leaves. */
    private static void allOfFlyers() {
        KiteMeet x = new KiteMeet();
        for (int f = 0; f <= 8; f++) {
            Due.due("flyers", x.all(0), f);
            x.flyer(0, 0, 0, 1, 1, 12);
        }
        Due.due("no ninth", x.all(0), 8);
        x.undo();
        Due.due("seven", x.all(0), 7);
    }

    /** '1 how many in THE ROW, 2 WALKS since it began, 3 whether it is UNTANGLED (1, 0)'. */
    private static void allOfTheRow() {
        KiteMeet x = new KiteMeet();
        for (int n = 2; n <= 5; n++) {
            x.row(n);
            dueRow(x, n, 0, 1);
            x.walk(n - 2, true);
            dueRow(x, n, 1, 0);
            x.walk(n - 2, true);
            dueRow(x, n, 2, 0);
            x.walk(n - 1, true);
            x.walk(n - 2, false);
            dueRow(x, n, 3, 0);
            x.walk(n - 2, false);
            dueRow(x, n, 4, 1);
            x.undo();
            dueRow(x, n, 3, 0);
        }
        x.row(3);
        for (int i = 0; i < 6; i++) {
            x.walk(i % 2, true);
        }
        Due.due("each at its place", x.at(0) * 100 + x.at(1) * 10 + x.at(2), 12);
        Due.due("yet tangled", x.all(3), 0);
    }

    private static void dueRow(KiteMeet x, int n, int walks, int untangled) {
        Due.due("how many", x.all(1), n);
        Due.due("walks", x.all(2), walks);
        Due.due("untangled", x.all(3), untangled);
    }

    /** '4 how many acts answered a finding ever (this one, too, if it does)'. */
    private static void allOfFindings() {
        KiteMeet x = new KiteMeet();
        Due.due("none", x.all(4), 0);
        Due.due("asking is none", x.all(4), 0);
        Due.due("undo", x.undo(), Due.NONE);
        Due.due("one", x.all(4), 1);
        Due.due("all", x.all(5), Due.BEYOND);
        Due.due("this one, too", x.all(4), 2);
        x.row(4);
        Due.due("a row does not begin it anew", x.all(4), 2);
        x.undo();
        Due.due("an undo takes none back", x.all(4), 2);
        for (int i = 0; i < 300; i++) {
            x.all(-1);
        }
        Due.due("ever", x.all(4), 302);
    }

    /** One finding of each sort, one after another: each is one more. */
    private static void eachFindingIsCountedOnce() {
        KiteMeet x = new KiteMeet();
        Bound.scene(x);
        int[] findings = {
            x.of(9, 0), x.put(3, 0, 0), x.twist(1, 1), x.as(0, 3), x.meet(0, 1, 0), x.fewest(3),
            x.same(3, 3, 3), x.copy(0, 0, 1, 0, 0), x.gusts(0, 19, 0), x.sheet(0, 8, -1),
        };
        int[] want = {
            Due.BEYOND, Due.MISSING, Due.SIZE, Due.KIND, Due.NONE, Due.NONE,
            Due.MISSING, Due.KIND, Due.SIZE, Due.SIZE,
        };
        for (int i = 0; i < want.length; i++) {
            Due.due("finding " + i, findings[i], want[i]);
        }
        Due.due("all of them", x.all(4), want.length);
    }

    /** 'An object is used for at most 512 calls': the last of them is answered as the first. */
    private static void call512() {
        KiteMeet walked = new KiteMeet();
        for (int i = 0; i < 511; i++) {
            Due.due("walk " + i, walked.walk(1, i % 2 == 0), i % 2 == 0 ? 2 : 0);
        }
        Due.due("call 512", walked.all(2), 511);
        KiteMeet refused = new KiteMeet();
        for (int i = 0; i < 511; i++) {
            Due.due("undo " + i, refused.undo(), Due.NONE);
        }
        Due.due("call 512", refused.all(4), 511);
        KiteMeet turned = new KiteMeet();
        for (int i = 0; i < 255; i++) {
            Due.due("row", turned.row(2 + i % 4), 0);
            Due.due("undo", turned.undo(), 0);
        }
        Due.due("call 511", turned.all(1), 3);
        Due.due("call 512", turned.undo(), Due.NONE);
    }
}
