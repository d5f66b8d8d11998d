import java.util.ArrayList;
import java.util.List;
import java.util.function.Consumer;
import java.util.function.ToIntFunction;

/**
 * For the tests of bounds: calls on a field on which much has been done, each on an object
 * of its own. A refused call must change nothing: an object that was asked it and one that
 * was not then answer all questions alike, but for the count of findings.
 */
final class Bound {
    /** A call of which one number is tried on both sides of its bounds. */
    interface NumberCall {
        int on(KiteMeet x, int v);
    }

    // At most 305 questions go to one object, so what is told ahead of them may take 200 calls.
    private static final List<ToIntFunction<KiteMeet>> WINDS = winds();
    private static final List<ToIntFunction<KiteMeet>> FLYERS = flyers();
    private static final List<ToIntFunction<KiteMeet>> ROW = row();
    private static final List<ToIntFunction<KiteMeet>> WORDS = words();
    private static final List<ToIntFunction<KiteMeet>> KEPT = kept();

    private Bound() {
    }

    /**
     * A flyer of each kind, numbered as its kind; winds; a row of 4 with tangled words and
     * worn lines; sheet 0 of forces, 1 of 16 bits, 2 of walks, 3 MISSING. 15 acts are kept.
     */
    static void scene(KiteMeet x) {
        x.flyer(0, 1234, 0, 10, 3, 16 * 2 + 9);
        x.flyer(1, 5060, 1, 20, 4, 12);
        x.flyer(2, 5061, 1, 20, 5, 12);
        x.flyer(3, 9900, 3, 40, 9, 16 * 12 + 12);
        x.wind(0, 0, 1, 5);
        x.wind(1, 19, 6, 3);
        x.wind(2, 7, 2, 12);
        x.go(0, 4321);
        x.line(0, 12);
        x.row(4);
        x.sharp(0, 5);
        x.sharp(2, 1);
        x.walk(0, true);
        x.walk(2, false);
        x.walk(1, true);
        numbers(x, 0, 8, 1, 2, 12);
        numbers(x, 1, 16, 4, 13);
        numbers(x, 2, 8, 0, 1, 4, 5);
    }

    /** A sheet of these numbers. */
    static void numbers(KiteMeet x, int s, int bits, int... numbers) {
        x.sheet(s, bits, numbers.length);
        for (int i = 0; i < numbers.length; i++) {
            x.put(s, i, numbers[i]);
        }
    }

    /** A call on the scene that is taken. */
    static void taken(String what, ToIntFunction<KiteMeet> call, int want) {
        takenBehind(what, Bound::scene, call, want);
    }

    static void takenBehind(
            String what, Consumer<KiteMeet> before, ToIntFunction<KiteMeet> call, int want) {
        KiteMeet x = made(before);
        int findings = x.all(4);
        Due.due(what, call.applyAsInt(x), want);
        Due.due(what + ": findings", x.all(4), findings);
    }

    /** A call on the scene that answers a finding. */
    static void refused(String what, ToIntFunction<KiteMeet> call, int finding) {
        refusedBehind(what, Bound::scene, call, finding);
    }

    static void refusedBehind(
            String what, Consumer<KiteMeet> before, ToIntFunction<KiteMeet> call, int finding) {
        Consumer<KiteMeet> asked = x -> {
            before.accept(x);
            Due.due(what, call.applyAsInt(x), finding);
        };
        Due.due(what + ": findings", made(asked).all(4), made(before).all(4) + 1);
        alike(what + ": winds", before, asked, WINDS);
        alike(what + ": flyers", before, asked, FLYERS);
        alike(what + ": row", before, asked, ROW);
        alike(what + ": words", before, asked, WORDS);
        alike(what + ": undo", before, asked, KEPT);
        for (int s = 0; s < 4; s++) {
            String plain = sheetOf(made(before), s);
            String then = sheetOf(made(asked), s);
            Due.holds(what + ": sheet " + s + " is " + then + ", was " + plain, then.equals(plain));
        }
    }

    /** On the scene least and most are taken; beside them, and far from them, it is BEYOND. */
    static void range(String what, int least, int most, NumberCall call) {
        rangeBehind(what, Bound::scene, least, most, call);
    }

    static void rangeBehind(
            String what, Consumer<KiteMeet> before, int least, int most, NumberCall call) {
        for (int v : new int[] {least, most}) {
            int answer = call.on(made(before), v);
            Due.holds(what + " " + v + " is taken, not " + answer, answer > -100000);
        }
        int[] beyond = {least - 1, most + 1, Integer.MIN_VALUE, Integer.MAX_VALUE};
        for (int v : beyond) {
            refusedBehind(what + " " + v, before, x -> call.on(x, v), Due.BEYOND);
        }
    }

    private static KiteMeet made(Consumer<KiteMeet> before) {
        KiteMeet x = new KiteMeet();
        before.accept(x);
        return x;
    }

    private static void alike(String what, Consumer<KiteMeet> before, Consumer<KiteMeet> asked,
            List<ToIntFunction<KiteMeet>> questions) {
        KiteMeet plain = made(before);
        KiteMeet then = made(asked);
        for (int i = 0; i < questions.size(); i++) {
            Due.due(what + ", question " + i, questions.get(i).applyAsInt(then),
                    questions.get(i).applyAsInt(plain));
        }
    }

    private static List<ToIntFunction<KiteMeet>> winds() {
        List<ToIntFunction<KiteMeet>> all = new ArrayList<>();
        for (int i = 0; i < 80; i++) {
            int height = i / 20;
            int minute = i % 20;
            all.add(x -> x.windAt(height, minute, true));
            all.add(x -> x.windAt(height, minute, false));
        }
        return all;
    }

    private static List<ToIntFunction<KiteMeet>> flyers() {
        List<ToIntFunction<KiteMeet>> all = new ArrayList<>();
        all.add(x -> x.all(0));
        for (int i = 0; i < 64; i++) {
            int flyer = i / 8;
            int what = i % 8;
            all.add(x -> x.of(flyer, what));
        }
        return all;
    }

    /** Who stands where and the fights; what sharpness was is told by an act, so it comes last. */
    private static List<ToIntFunction<KiteMeet>> row() {
        List<ToIntFunction<KiteMeet>> all = new ArrayList<>();
        all.add(x -> x.all(1));
        all.add(x -> x.all(2));
        all.add(x -> x.all(3));
        all.add(KiteMeet::tangle);
        all.add(KiteMeet::lost);
        for (int i = 0; i < 5; i++) {
            int k = i;
            all.add(x -> x.at(k));
            all.add(x -> x.wear(k));
            for (int j = 0; j < i; j++) {
                int other = j;
                all.add(x -> x.twist(k, other));
            }
        }
        for (int i = 0; i < 5; i++) {
            int k = i;
            all.add(x -> x.sharp(k, 0));
        }
        return all;
    }

    private static List<ToIntFunction<KiteMeet>> words() {
        List<ToIntFunction<KiteMeet>> all = new ArrayList<>();
        for (int p = 0; p < 5; p++) {
            int place = p;
            for (int k = -1; k < 60; k++) {
                int i = k;
                all.add(x -> x.letter(place, i));
            }
        }
        return all;
    }

    /** All that is kept for undo, one after another, with what can be seen behind each. */
    private static List<ToIntFunction<KiteMeet>> kept() {
        List<ToIntFunction<KiteMeet>> all = new ArrayList<>();
        for (int i = 0; i < 21; i++) {
            all.add(KiteMeet::undo);
            for (int k = 0; k < 4; k++) {
                int what = k;
                all.add(x -> x.all(what));
            }
            all.add(KiteMeet::tangle);
            all.add(x -> x.of(0, 2));
            all.add(x -> x.of(0, 4));
            all.add(x -> x.windAt(0, 0, false));
            all.add(x -> x.windAt(1, 19, true));
            all.add(x -> x.windAt(2, 7, false));
            all.add(x -> x.wear(1));
            all.add(x -> x.wear(2));
        }
        return all;
    }

    /** Of a sheet all that can be seen: its bits, how many numbers, and which are forces. */
    private static String sheetOf(KiteMeet x, int s) {
        int spare = (s + 1) % 4;
        StringBuilder told = new StringBuilder();
        for (int bits = 8; bits <= 32; bits *= 2) {
            x.sheet(spare, bits, 1);
            int answer = x.copy(s, 0, spare, 0, 0);
            if (answer == Due.MISSING) {
                return "MISSING";
            }
            if (answer == 0) {
                told.append(bits).append(" bits:");
                addNumbers(told, x, s, spare);
            }
        }
        return told.toString();
    }

    private static void addNumbers(StringBuilder told, KiteMeet x, int s, int spare) {
        for (int i = 0; i <= 40 && x.copy(s, i, spare, 0, 1) == 1; i++) {
            int answer = x.gusts(0, 0, spare);
            told.append(' ').append(answer == 1 ? x.windAt(0, 0, false) : answer);
        }
    }
}
