import java.util.ArrayList;
import java.util.Arrays;
import java.util.List;

/**
 * The document said again in the plainest way, without regard to cost, for ModelTest to
 * hold the class against. Each method takes the call's arguments as a row of ints
 * (booleans as 0 and 1).
 */
final class PlainField {
    /** What an undo gives back, with a copy of its own for each act. */
    private static final class Scene {
        List<int[]> flyers = new ArrayList<>();
        int[][] direction = new int[4][20];
        int[][] force = new int[4][20];
        int n = 3;
        int walks = 0;
        int[] at = {0, 1, 2, 3, 4};
        List<List<Integer>> words = firstWords(3);
        int[][] front = new int[5][5];
        int[][] behind = new int[5][5];
        int[] wear = new int[5];
        int[] sharp = new int[5];

        Scene twin() {
            Scene s = new Scene();
            for (int[] f : flyers) {
                s.flyers.add(f.clone());
            }
            for (int h = 0; h < 4; h++) {
                s.direction[h] = direction[h].clone();
                s.force[h] = force[h].clone();
            }
            s.n = n;
            s.walks = walks;
            s.at = at.clone();
            s.words = twinOf(words);
            for (int i = 0; i < 5; i++) {
                s.front[i] = front[i].clone();
                s.behind[i] = behind[i].clone();
            }
            s.wear = wear.clone();
            s.sharp = sharp.clone();
            return s;
        }
    }

    private Scene scene = new Scene();
    private final List<Scene> kept = new ArrayList<>();
    private final int[][] sheets = new int[4][];
    private final int[] bits = new int[4];
    private int findings = 0;

    int call(String name, int... a) {
        int answer = answer(name, a);
        if (answer < -99999) {
            findings++;
        }
        return name.equals("all") && a[0] == 4 ? findings : answer;
    }

    private int answer(String name, int[] a) {
        switch (name) {
            case "flyer": return flyer(a);
            case "as": return as(a[0], a[1]);
            case "of": return !told(a[0]) || out(a[1], 0, 7) ? Due.BEYOND : trait(a[0], a[1]);
            case "go": return go(a[0], a[1]);
            case "line": return line(a[0], a[1]);
            case "wind": return wind(a[0], a[1], a[2], a[3]);
            case "windAt": return out(a[0], 0, 3) || out(a[1], 0, 19) ? Due.BEYOND
                    : a[2] == 1 ? scene.direction[a[0]][a[1]] : scene.force[a[0]][a[1]];
            case "flies": return !told(a[0]) || out(a[1], 0, 19) ? Due.BEYOND
                    : flies(a[0], a[1]) ? 1 : 0;
            case "kite": return kite(a[0], a[1], a[2]);
            case "meet": return meet(a[0], a[1], a[2]);
            case "meets": return out(a[0], 0, 19) ? Due.BEYOND : pairs(a[0], -1);
            case "field": return out(a[0], 0, 19) ? Due.BEYOND : field(a[0]);
            case "best": return best(a[0], a[1]);
            case "row": return row(a[0]);
            case "walk": return walk(a[0], a[1]);
            case "at": return out(a[0], 0, scene.n - 1) ? Due.BEYOND : scene.at[a[0]];
            case "letter": return letter(a[0], a[1]);
            case "tangle": return tangle();
            case "twist": return twist(a[0], a[1]);
            case "fewest": return fewest(a[0]);
            case "same": return same(a[0], a[1], a[2]);
            case "sharp": return sharp(a[0], a[1]);
            case "wear": return out(a[0], 0, scene.n - 1) ? Due.BEYOND : scene.wear[a[0]];
            case "lost": return lost();
            case "sheet": return sheet(a[0], a[1], a[2]);
            case "put": return put(a[0], a[1], a[2]);
            case "copy": return copy(a[0], a[1], a[2], a[3], a[4]);
            case "gusts": return gusts(a[0], a[1], a[2]);
            case "undo": return undo();
            case "all": return all(a[0]);
            default: throw new IllegalArgumentException(name);
        }
    }

    private static boolean out(int v, int least, int most) {
        return v < least || v > most;
    }

    private void act() {
        kept.add(scene.twin());
        if (kept.size() > 20) {
            kept.remove(0);
        }
    }

    private boolean told(int flyer) {
        return !out(flyer, 0, scene.flyers.size() - 1);
    }

    private int trait(int flyer, int what) {
        return scene.flyers.get(flyer)[what];
    }

    private int flyer(int[] a) {
        int least = Math.floorDiv(a[5], 16);
        int most = Math.floorMod(a[5], 16);
        if (out(a[0], 0, 3) || out(a[1], 0, 9999) || out(a[2], 0, 3) || out(a[3], 1, 40)
                || out(a[4], 1, 9) || out(least, 0, 12) || out(most, 0, 12)) {
            return Due.BEYOND;
        }
        if (least > most) {
            return Due.SIZE;
        }
        if (scene.flyers.size() == 8) {
            return Due.FULL;
        }
        act();
        scene.flyers.add(new int[] {a[0], a[1] / 100, a[1] % 100, a[2], a[3], a[4], least, most});
        return scene.flyers.size() - 1;
    }

    private int as(int flyer, int kind) {
        if (!told(flyer) || out(kind, 0, 3)) {
            return Due.BEYOND;
        }
        int own = trait(flyer, 0);
        boolean is = kind == own || kind == 0 || (kind == 1 && own == 3);
        return is ? flyer : Due.KIND;
    }

    private int go(int flyer, int place) {
        if (!told(flyer) || out(place, 0, 9999)) {
            return Due.BEYOND;
        }
        act();
        int[] f = scene.flyers.get(flyer);
        int was = 100 * f[1] + f[2];
        f[1] = place / 100;
        f[2] = place % 100;
        return was;
    }

    private int line(int flyer, int v) {
        if (!told(flyer) || out(v, 1, 40)) {
            return Due.BEYOND;
        }
        act();
        int was = trait(flyer, 4);
        scene.flyers.get(flyer)[4] = v;
        return was;
    }

    private int wind(int height, int minute, int direction, int force) {
        if (out(height, 0, 3) || out(minute, 0, 19) || out(direction, 0, 7) || out(force, 0, 12)) {
            return Due.BEYOND;
        }
        act();
        scene.direction[height][minute] = direction;
        scene.force[height][minute] = force;
        return 0;
    }

    private boolean flies(int flyer, int minute) {
        int kind = trait(flyer, 0);
        int[] forces = scene.force[trait(flyer, 3)];
        int force = forces[minute];
        switch (kind) {
            case 0:
                return !out(force, trait(flyer, 6), trait(flyer, 7));
            case 2:
                return !out(force, trait(flyer, 6) + 1, trait(flyer, 7) + 2);
            default:
                return !out(force, trait(flyer, 6), trait(flyer, 7))
                        && (minute == 0 || !out(forces[minute - 1], force - 3, force + 3));
        }
    }

    private int[] where(int flyer, int minute) {
        double turn = scene.direction[trait(flyer, 3)][minute] * Math.PI / 4;
        int line = trait(flyer, 4);
        return new int[] {
            trait(flyer, 1) + line * (int) Math.round(Math.cos(turn)),
            trait(flyer, 2) + line * (int) Math.round(Math.sin(turn)),
        };
    }

    private int kite(int flyer, int minute, int ofY) {
        if (!told(flyer) || out(minute, 0, 19)) {
            return Due.BEYOND;
        }
        return flies(flyer, minute) ? where(flyer, minute)[ofY] : Due.NONE;
    }

    private boolean meetIn(int f, int o, int minute) {
        if (!flies(f, minute) || !flies(o, minute) || trait(f, 3) != trait(o, 3)) {
            return false;
        }
        int[] a = where(f, minute);
        int[] b = where(o, minute);
        int spans = trait(f, 5) + trait(o, 5);
        return Math.max(Math.abs(a[0] - b[0]), Math.abs(a[1] - b[1])) < spans;
    }

    private int meet(int flyer, int other, int minute) {
        if (!told(flyer) || !told(other) || out(minute, 0, 19)) {
            return Due.BEYOND;
        }
        if (flyer == other) {
            return Due.SIZE;
        }
        int m = minute;
        while (m < 20 && !meetIn(flyer, other, m)) {
            m++;
        }
        return m < 20 ? m : Due.NONE;
    }

    /** How many pairs of a set meet. */
    private int pairs(int minute, int set) {
        int count = 0;
        for (int f = 0; f < scene.flyers.size(); f++) {
            for (int o = 0; o < f; o++) {
                if ((set >> f & 1) == 1 && (set >> o & 1) == 1 && meetIn(f, o, minute)) {
                    count++;
                }
            }
        }
        return count;
    }

    private int field(int minute) {
        int best = 0;
        for (int set = (1 << scene.flyers.size()) - 1; set > 0; set--) {
            boolean good = Integer.bitCount(set) >= Integer.bitCount(best);
            for (int f = 0; f < scene.flyers.size() && good; f++) {
                good = (set >> f & 1) == 0 || flies(f, minute);
            }
            if (good && pairs(minute, set) == 0) {
                best = set;
            }
        }
        return best;
    }

    private int best(int from, int to) {
        if (out(from, 0, 19) || out(to, 0, 19) || from > to) {
            return Due.BEYOND;
        }
        int best = to;
        for (int m = to; m >= from; m--) {
            if (Integer.bitCount(field(m)) >= Integer.bitCount(field(best))) {
                best = m;
            }
        }
        return best;
    }

    private static List<List<Integer>> firstWords(int n) {
        List<List<Integer>> words = new ArrayList<>();
        for (int k = 1; k <= n; k++) {
            words.add(new ArrayList<>(List.of(k)));
        }
        return words;
    }

    private static List<List<Integer>> twinOf(List<List<Integer>> words) {
        List<List<Integer>> twin = new ArrayList<>();
        for (List<Integer> w : words) {
            twin.add(new ArrayList<>(w));
        }
        return twin;
    }

    private static List<Integer> turned(List<Integer> word) {
        List<Integer> t = new ArrayList<>();
        for (int letter : word) {
            t.add(0, -letter);
        }
        return t;
    }

    private static List<Integer> joined(List<Integer> a, List<Integer> b, List<Integer> c) {
        List<Integer> all = new ArrayList<>(a);
        all.addAll(b);
        all.addAll(c);
        boolean gone = true;
        while (gone) {
            gone = false;
            for (int i = 0; i + 1 < all.size(); i++) {
                if (all.get(i) + all.get(i + 1) == 0) {
                    all.remove(i);
                    all.remove(i);
                    gone = true;
                    break;
                }
            }
        }
        return all;
    }

    /** The words behind a walk, or null if one would be too long. */
    private static List<List<Integer>> walked(List<List<Integer>> words, int place, int front) {
        List<List<Integer>> then = twinOf(words);
        List<Integer> a = words.get(place);
        List<Integer> b = words.get(place + 1);
        then.set(place, front == 1 ? joined(a, b, turned(a)) : b);
        then.set(place + 1, front == 1 ? a : joined(turned(b), a, b));
        boolean fits = then.get(place).size() <= 60 && then.get(place + 1).size() <= 60;
        return fits ? then : null;
    }

    private static List<List<Integer>> walkedAll(List<List<Integer>> words, int[] walks) {
        List<List<Integer>> then = words;
        for (int i = 0; i < walks.length && then != null; i++) {
            then = walked(then, walks[i] / 2, 1 - walks[i] % 2);
        }
        return then;
    }

    private int row(int n) {
        if (out(n, 2, 5)) {
            return Due.BEYOND;
        }
        act();
        int walks = scene.walks;
        Scene anew = new Scene();
        anew.flyers = scene.flyers;
        anew.direction = scene.direction;
        anew.force = scene.force;
        anew.n = n;
        anew.words = firstWords(n);
        scene = anew;
        return walks;
    }

    private int walk(int place, int front) {
        if (out(place, 0, scene.n - 2)) {
            return Due.BEYOND;
        }
        int f = scene.at[place];
        int o = scene.at[place + 1];
        if (scene.wear[f] >= 20 || scene.wear[o] >= 20) {
            return Due.LOST;
        }
        List<List<Integer>> then = walked(scene.words, place, front);
        if (then == null) {
            return Due.FULL;
        }
        act();
        scene.words = then;
        scene.at[place] = o;
        scene.at[place + 1] = f;
        int[][] counts = front == 1 ? scene.front : scene.behind;
        counts[f][o]++;
        counts[o][f]++;
        scene.wear[f] += scene.sharp[o] * (told(o) && trait(o, 0) == 3 ? 2 : 1);
        scene.wear[o] += scene.sharp[f] * (told(f) && trait(f, 0) == 3 ? 2 : 1);
        scene.walks++;
        return tangle();
    }

    private int tangle() {
        int letters = 0;
        for (List<Integer> w : scene.words) {
            letters += w.size();
        }
        return letters - scene.n;
    }

    private int letter(int place, int i) {
        if (out(place, 0, scene.n - 1)) {
            return Due.BEYOND;
        }
        List<Integer> word = scene.words.get(place);
        if (i == -1) {
            return word.size();
        }
        if (out(i, 0, word.size() - 1)) {
            return Due.BEYOND;
        }
        return word.get(i) > 0 ? word.get(i) - 1 : 9 - word.get(i);
    }

    private int twist(int f, int o) {
        if (out(f, 0, scene.n - 1) || out(o, 0, scene.n - 1)) {
            return Due.BEYOND;
        }
        return f == o ? Due.SIZE : scene.front[f][o] - scene.behind[f][o];
    }

    private int fewest(int i) {
        if (i < -1) {
            return Due.BEYOND;
        }
        int kinds = 2 * (scene.n - 1);
        int rows = 1;
        for (int length = 0; length <= 3; length++) {
            for (int r = 0; r < rows; r++) {
                int[] walks = new int[length];
                int rest = r;
                for (int k = length - 1; k >= 0; k--) {
                    walks[k] = rest % kinds;
                    rest /= kinds;
                }
                if (firstWords(scene.n).equals(walkedAll(scene.words, walks))) {
                    return i == -1 ? length : i < length ? walks[i] : Due.NONE;
                }
            }
            rows *= kinds;
        }
        return Due.NONE;
    }

    private int same(int n, int s, int t) {
        if (out(n, 2, 5) || out(s, 0, 3) || out(t, 0, 3)) {
            return Due.BEYOND;
        }
        if (sheets[s] == null || sheets[t] == null) {
            return Due.MISSING;
        }
        for (int v : sheets[s]) {
            if (out(v, 0, 2 * n - 3)) {
                return Due.BEYOND;
            }
        }
        for (int v : sheets[t]) {
            if (out(v, 0, 2 * n - 3)) {
                return Due.BEYOND;
            }
        }
        List<List<Integer>> one = walkedAll(firstWords(n), sheets[s]);
        List<List<Integer>> two = walkedAll(firstWords(n), sheets[t]);
        return one == null || two == null ? Due.FULL : one.equals(two) ? 1 : 0;
    }

    private int sharp(int flyer, int v) {
        if (out(flyer, 0, scene.n - 1) || out(v, 0, 9)) {
            return Due.BEYOND;
        }
        act();
        int was = scene.sharp[flyer];
        scene.sharp[flyer] = v;
        return was;
    }

    private int lost() {
        int bits = 0;
        for (int f = scene.n - 1; f >= 0; f--) {
            bits = 2 * bits + (scene.wear[f] >= 20 ? 1 : 0);
        }
        return bits;
    }

    private int sheet(int s, int b, int n) {
        if (out(s, 0, 3) || !Arrays.asList(0, 8, 16, 32).contains(b)) {
            return Due.BEYOND;
        }
        if (n < 0) {
            return Due.SIZE;
        }
        if (n > 40) {
            return Due.BEYOND;
        }
        sheets[s] = b == 0 ? null : new int[n];
        bits[s] = b;
        return b == 0 ? 0 : n;
    }

    private int put(int s, int i, int v) {
        if (out(s, 0, 3)) {
            return Due.BEYOND;
        }
        if (sheets[s] == null) {
            return Due.MISSING;
        }
        if (out(i, 0, sheets[s].length - 1)) {
            return Due.BEYOND;
        }
        sheets[s][i] = bits[s] == 8 ? v & 0xff : bits[s] == 16 ? v & 0xffff : v;
        return 0;
    }

    private int copy(int s, int from, int t, int to, int n) {
        if (out(s, 0, 3) || out(t, 0, 3)) {
            return Due.BEYOND;
        }
        if (sheets[s] == null || sheets[t] == null) {
            return Due.MISSING;
        }
        if (bits[s] != bits[t]) {
            return Due.KIND;
        }
        if (from < 0 || to < 0 || n < 0 || (long) from + n > sheets[s].length
                || (long) to + n > sheets[t].length) {
            return Due.BEYOND;
        }
        int[] taken = Arrays.copyOfRange(sheets[s], from, from + n);
        for (int i = 0; i < n; i++) {
            sheets[t][to + i] = taken[i];
        }
        return n;
    }

    private int gusts(int height, int minute, int s) {
        if (out(height, 0, 3) || out(minute, 0, 19) || out(s, 0, 3)) {
            return Due.BEYOND;
        }
        if (sheets[s] == null) {
            return Due.MISSING;
        }
        if (minute + sheets[s].length - 1 > 19) {
            return Due.SIZE;
        }
        for (int v : sheets[s]) {
            if (out(v, 0, 12)) {
                return Due.BEYOND;
            }
        }
        act();
        for (int i = 0; i < sheets[s].length; i++) {
            scene.force[height][minute + i] = sheets[s][i];
        }
        return sheets[s].length;
    }

    private int undo() {
        if (kept.isEmpty()) {
            return Due.NONE;
        }
        scene = kept.remove(kept.size() - 1);
        return kept.size();
    }

    private int all(int what) {
        switch (what) {
            case 0: return scene.flyers.size();
            case 1: return scene.n;
            case 2: return scene.walks;
            case 3: return scene.words.equals(firstWords(scene.n)) ? 1 : 0;
            case 4: return 0;
            default: return Due.BEYOND;
        }
    }
}
