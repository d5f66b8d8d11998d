import java.util.ArrayList;
import java.util.List;
import java.util.Random;

/**
 * What must hold of words that tell tangles exactly, whatever walks were done: it follows
 * from the document's rules for walks, so no second program is asked what is due.
 */
public final class TangleTest {
    private static final int RUNS = 400;

    public static void main(String[] args) {
        for (int run = 0; run < RUNS; run++) {
            wordsFitTogether(run);
            walksAreTakenBack(run);
            fewestUntangles(run);
            otherWalksThatDoTheSame(run);
        }
        Due.end();
    }

    private static int sizeOf(int run) {
        return 2 + run % 4;
    }

    private static KiteMeet rowOf(int n) {
        KiteMeet x = new KiteMeet();
        x.row(n);
        return x;
    }

    /** Walks by chance, told as sheets tell them; those that were done, in their order. */
    private static List<Integer> walked(KiteMeet x, int n, int tries, Random chance) {
        List<Integer> done = new ArrayList<>();
        for (int i = 0; i < tries; i++) {
            int told = chance.nextInt(2 * (n - 1));
            if (walk(x, told) > -100000) {
                done.add(told);
            }
        }
        return done;
    }

    private static int walk(KiteMeet x, int told) {
        return x.walk(told / 2, told % 2 == 0);
    }

    private static List<Integer> word(KiteMeet x, int place) {
        List<Integer> word = new ArrayList<>();
        int length = x.letter(place, -1);
        for (int i = 0; i < length; i++) {
            word.add(x.letter(place, i));
        }
        return word;
    }

    private static List<List<Integer>> words(KiteMeet x, int n) {
        List<List<Integer>> words = new ArrayList<>();
        for (int place = 0; place < n; place++) {
            words.add(word(x, place));
        }
        return words;
    }

    private static boolean areNothing(int letter, int next) {
        return Math.abs(letter - next) == 10;
    }

    /** The words one behind another are always 0, 1, .. once what is nothing has gone. */
    private static void wordsFitTogether(int run) {
        int n = sizeOf(run);
        KiteMeet x = rowOf(n);
        List<Integer> done = walked(x, n, run % 30, new Random(run));
        List<Integer> joined = new ArrayList<>();
        int letters = 0;
        for (int place = 0; place < n; place++) {
            List<Integer> word = word(x, place);
            letters += word.size();
            wordIsOfItsFlyer("run " + run + ", place " + place, word, x.at(place));
            for (int letter : word) {
                int last = joined.size() - 1;
                if (last >= 0 && areNothing(joined.get(last), letter)) {
                    joined.remove(last);
                } else {
                    joined.add(letter);
                }
            }
        }
        Due.holds("run " + run + ": words joined are " + joined,
                joined.equals(List.of(0, 1, 2, 3, 4).subList(0, n)));
        Due.due("run " + run + ": tangle", x.tangle(), letters - n);
        Due.due("run " + run + ": walks", x.all(2), done.size());
        twistsAreAllWalks("run " + run, x, n, done);
    }

    /** A word is its flyer's letter forth, with what stands ahead of it turned round behind it. */
    private static void wordIsOfItsFlyer(String where, List<Integer> word, int flyer) {
        int length = word.size();
        Due.holds(where + ": at most 60 letters, and odd", length <= 60 && length % 2 == 1);
        Due.due(where + ": the middle", word.get(length / 2), flyer);
        for (int i = 0; i < length / 2; i++) {
            Due.holds(where + ": turned round at " + i,
                    areNothing(word.get(i), word.get(length - 1 - i)));
            Due.holds(where + ": nothing that stays at " + i,
                    !areNothing(word.get(i), word.get(i + 1)));
        }
    }

    private static void twistsAreAllWalks(String where, KiteMeet x, int n, List<Integer> done) {
        int inFrontLessBehind = 0;
        for (int told : done) {
            inFrontLessBehind += told % 2 == 0 ? 1 : -1;
        }
        int twists = 0;
        for (int flyer = 0; flyer < n; flyer++) {
            for (int other = 0; other < flyer; other++) {
                Due.due(where + ": twist either way", x.twist(flyer, other), x.twist(other, flyer));
                twists += x.twist(flyer, other);
            }
        }
        Due.due(where + ": all twists", twists, inFrontLessBehind);
    }

    /** The same places from behind, front and behind changed. */
    private static void walksAreTakenBack(int run) {
        int n = sizeOf(run);
        KiteMeet x = rowOf(n);
        List<Integer> done = walked(x, n, 150, new Random(-run));
        int longest = done.size();
        for (int i = longest - 1; i >= 0; i--) {
            Due.holds("run " + run + ": back " + i, walk(x, done.get(i) ^ 1) >= 0);
        }
        Due.due("run " + run + ": untangled", x.all(3), 1);
        Due.due("run " + run + ": tangle", x.tangle(), 0);
        Due.due("run " + run + ": walks", x.all(2), 2 * longest);
        for (int flyer = 0; flyer < n; flyer++) {
            Due.due("run " + run + ": at", x.at(flyer), flyer);
            Due.due("run " + run + ": twist", x.twist(flyer, (flyer + 1) % n), 0);
        }
    }

    private static void fewestUntangles(int run) {
        int n = sizeOf(run);
        KiteMeet x = rowOf(n);
        int done = run / 4 % 4;
        walked(x, n, done, new Random(7 * run));
        int count = x.fewest(-1);
        Due.holds("run " + run + ": fewest of " + done, count >= 0 && count <= done);
        Due.due("run " + run + ": even or odd as the walks", count % 2, done % 2);
        Due.due("run " + run + ": none is untangled", count == 0 ? 1 : 0, x.all(3));
        for (int i = 0; i < count; i++) {
            int first = x.fewest(0);
            walk(x, first);
            Due.due("run " + run + ": one fewer", x.fewest(-1), count - 1 - i);
        }
        Due.due("run " + run + ": untangled", x.all(3), 1);
    }

    /** Walks far apart in either order; three in front (or behind) from either side. */
    private static void otherWalksThatDoTheSame(int run) {
        int n = sizeOf(run);
        Random chance = new Random(run + 5);
        int tries = run % 5;
        int behind = chance.nextInt(2);
        for (int i = 0; i < n - 1; i++) {
            for (int k = i + 1; k < n - 1; k++) {
                int one = 2 * i + behind;
                int two = 2 * k + (k - i > 1 ? chance.nextInt(2) : behind);
                int[] walks = k - i > 1 ? new int[] {one, two} : new int[] {one, two, one};
                int[] others = k - i > 1 ? new int[] {two, one} : new int[] {two, one, two};
                int seed = chance.nextInt();
                String where = "run " + run + ", places " + i + " and " + k;
                List<List<Integer>> words = wordsBehind(n, tries, seed, walks);
                Due.holds(where, words.equals(wordsBehind(n, tries, seed, others)));
            }
        }
    }

    private static List<List<Integer>> wordsBehind(int n, int tries, int seed, int[] walks) {
        KiteMeet x = rowOf(n);
        walked(x, n, tries, new Random(seed));
        for (int told : walks) {
            Due.holds("walk " + told, walk(x, told) >= 0);
        }
        return words(x, n);
    }
}
