import java.math.BigInteger;
import java.util.ArrayList;
import java.util.Arrays;
import java.util.HashMap;
import java.util.List;
import java.util.Map;
import java.util.TreeMap;
import java.util.regex.Matcher;
import java.util.regex.Pattern;

/**
 * The document once more, in other ways than the program's (a regular expression for the tape,
 * matchings for the pass, roots of a quadratic tick by tick, all delays one by one), so that the two
 * can be held against one another.
 */
final class Model {
    private static final String ACROSS = "(?:0|-?(?:[1-9][0-9]?|1[0-9][0-9]|200))";
    private static final String UP = "(?:0|[1-9][0-9]?|1[0-9][0-9]|200)";
    private static final String POINT = ACROSS + "," + ACROSS + "," + UP + ":[0-9]";
    private static final Pattern FIGURE = Pattern.compile(POINT + "(?:;" + POINT + "){0,9}");

    private record Scene(int figure, int ticks, int hold, int colour) {
    }

    private static final class Pass {
        int[][] from;
        int[][] to;
        int[] goals;
        int ticks;
        int greatest;
        int[] delays;
        // Which pairs clash, by the pair, their delays and the gap: part() asks for it very often.
        final Map<List<Integer>, Boolean> known = new HashMap<>();
    }

    private final List<int[]> pads = new ArrayList<>();
    private final List<Integer> charges = new ArrayList<>();
    private final List<int[][]> figures = new ArrayList<>();
    private final StringBuilder tape = new StringBuilder();
    private final List<Scene> scenes = new ArrayList<>();
    private final List<TreeMap<Integer, int[]>> marks = new ArrayList<>();
    private Pass pass = null;
    private int gap = 10;
    private int[] zone = {0, 0, 0};
    private int margin = 50;
    private int[] who = {-1, -1};

    Model() {
        for (int i = 0; i < 10; i++) {
            marks.add(new TreeMap<>());
        }
    }

    int flyer(int x, int y, int charge) {
        if (Math.abs((long) x) > 200 || Math.abs((long) y) > 200 || charge < 0 || charge > 100000) {
            return -2;
        }
        if (!scenes.isEmpty()) {
            return -3;
        }
        if (pads.size() == 10) {
            return -4;
        }
        pads.add(new int[] {x, y, 0, 0});
        charges.add(charge);
        return pads.size() - 1;
    }

    int feed(long w, int n) {
        if (n < 1 || n > 8) {
            return -2;
        }
        if (tape.length() + n > 300) {
            return -4;
        }
        byte[] bytes = java.nio.ByteBuffer.allocate(8).putLong(w).array();
        for (int i = 8 - n; i < 8; i++) {
            tape.append((char) (bytes[i] & 255));
        }
        return tape.length();
    }

    int figure() {
        if (figures.size() == 8) {
            return -4;
        }
        String text = tape.toString();
        tape.setLength(0);
        for (int size = 1; size <= text.length(); size++) {
            Matcher matcher = FIGURE.matcher(text.substring(0, size));
            if (!matcher.matches() && !matcher.hitEnd()) {
                return -10 - (size - 1);
            }
        }
        if (!FIGURE.matcher(text).matches()) {
            return -10 - text.length();
        }
        String[] parts = text.split(";");
        int[][] points = new int[parts.length][];
        for (int i = 0; i < parts.length; i++) {
            points[i] = Arrays.stream(parts[i].split("[,:]")).mapToInt(Integer::parseInt).toArray();
        }
        figures.add(points);
        return figures.size() - 1;
    }

    int point(int figure, int point, int what) {
        if (figure < 0 || figure >= figures.size()) {
            return -1000;
        }
        int[][] points = figures.get(figure);
        if (point == -1) {
            if (what == 0) {
                return points.length;
            }
            return what == 1 ? (least(points) < gap * gap ? 0 : 1) : -1000;
        }
        boolean there = point >= 0 && point < points.length && what >= 0 && what <= 3;
        return there ? points[point][what] : -1000;
    }

    int spread(int figure) {
        boolean there = figure >= 0 && figure < figures.size() && figures.get(figure).length > 1;
        return there ? least(figures.get(figure)) : -1;
    }

    private static int least(int[][] points) {
        int least = Integer.MAX_VALUE;
        for (int i = 0; i < points.length; i++) {
            for (int j = 0; j < i; j++) {
                least = Math.min(least, way(points[i], points[j]));
            }
        }
        return least;
    }

    private static int way(int[] a, int[] b) {
        int sum = 0;
        for (int axis = 0; axis < 3; axis++) {
            sum += (a[axis] - b[axis]) * (a[axis] - b[axis]);
        }
        return sum;
    }

    int gap(int n) {
        if (n < 0 || n > 100) {
            return -2;
        }
        int was = gap;
        gap = n;
        return was;
    }

    int zone(int x, int y, int radius) {
        if (x < -200 || x > 200 || y < -200 || y > 200 || radius < 0 || radius > 200) {
            return -2;
        }
        zone = new int[] {x, y, radius};
        return 0;
    }

    private int[][] picture(int number) {
        return number == -1 ? pads.toArray(new int[0][]) : figures.get(number);
    }

    int pass(int from, int to, int ticks) {
        if (from < -1 || from >= figures.size() || to < -1 || to >= figures.size()) {
            return -1;
        }
        if (ticks < 1 || ticks > 30) {
            return -2;
        }
        if (picture(from).length != picture(to).length || picture(from).length == 0) {
            return -3;
        }
        pass = passOf(picture(from), picture(to), ticks);
        return pass.greatest;
    }

    private static Pass passOf(int[][] from, int[][] to, int ticks) {
        Pass made = new Pass();
        made.from = from;
        made.to = to;
        made.ticks = ticks;
        made.delays = new int[from.length];
        made.goals = new int[from.length];
        Arrays.fill(made.goals, -1);
        java.util.TreeSet<Integer> ways = new java.util.TreeSet<>();
        for (int[] a : from) {
            for (int[] b : to) {
                ways.add(way(a, b));
            }
        }
        for (int most : ways) {
            if (canMatch(from, to, made.goals, most)) {
                made.greatest = most;
                break;
            }
        }
        for (int i = 0; i < from.length; i++) {
            for (int goal = 0; goal < to.length; goal++) {
                made.goals[i] = goal;
                if (canMatch(from, to, made.goals, made.greatest)) {
                    break;
                }
            }
        }
        return made;
    }

    /** Whether those whose goal is fixed, and all the others, can go at most so far. */
    private static boolean canMatch(int[][] from, int[][] to, int[] fixed, int most) {
        int[] owner = new int[to.length];
        Arrays.fill(owner, -1);
        for (int i = 0; i < from.length; i++) {
            if (fixed[i] >= 0) {
                if (owner[fixed[i]] >= 0 || way(from[i], to[fixed[i]]) > most) {
                    return false;
                }
                owner[fixed[i]] = i;
            }
        }
        for (int i = 0; i < from.length; i++) {
            if (fixed[i] < 0 && !augment(from, to, fixed, most, i, owner, new boolean[to.length])) {
                return false;
            }
        }
        return true;
    }

    private static boolean augment(int[][] from, int[][] to, int[] fixed, int most, int i, int[] owner,
            boolean[] seen) {
        for (int goal = 0; goal < to.length; goal++) {
            if (seen[goal] || way(from[i], to[goal]) > most) {
                continue;
            }
            seen[goal] = true;
            if (owner[goal] >= 0 && fixed[owner[goal]] >= 0) {
                continue;
            }
            if (owner[goal] < 0 || augment(from, to, fixed, most, owner[goal], owner, seen)) {
                owner[goal] = i;
                return true;
            }
        }
        return false;
    }

    private boolean has(int i) {
        return pass != null && i >= 0 && i < pass.from.length;
    }

    int goes(int i) {
        return has(i) ? pass.goals[i] : -1;
    }

    int delay(int i, int n) {
        if (!has(i)) {
            return -1;
        }
        if (n < 0 || n > 9) {
            return -2;
        }
        int was = pass.delays[i];
        pass.delays[i] = n;
        return was;
    }

    /** Where one is at a whole tick, times the ticks of the pass. */
    private static long[] spot(Pass pass, int i, int delay, int tick) {
        int gone = tick < delay ? 0 : Math.min(tick - delay, pass.ticks);
        int[] from = pass.from[i];
        int[] to = pass.to[pass.goals[i]];
        long[] spot = new long[3];
        for (int axis = 0; axis < 3; axis++) {
            spot[axis] = (long) from[axis] * (pass.ticks - gone) + (long) to[axis] * gone;
        }
        return spot;
    }

    private static boolean clashes(Pass pass, int a, int b, int delayA, int delayB, int gap) {
        for (int tick = 0; tick < Math.max(delayA, delayB) + pass.ticks; tick++) {
            long[] now = minus(spot(pass, a, delayA, tick), spot(pass, b, delayB, tick));
            long[] then = minus(spot(pass, a, delayA, tick + 1), spot(pass, b, delayB, tick + 1));
            if (nearer(now, then, (long) gap * pass.ticks)) {
                return true;
            }
        }
        return false;
    }

    private static long[] minus(long[] a, long[] b) {
        return new long[] {a[0] - b[0], a[1] - b[1], a[2] - b[2]};
    }

    /** Whether A s s + B s + C is below 0 for an s from 0 to 1. */
    private static boolean nearer(long[] now, long[] then, long limit) {
        BigInteger a = BigInteger.ZERO;
        BigInteger b = BigInteger.ZERO;
        BigInteger c = BigInteger.valueOf(limit).pow(2).negate();
        for (int axis = 0; axis < 3; axis++) {
            BigInteger start = BigInteger.valueOf(now[axis]);
            BigInteger step = BigInteger.valueOf(then[axis] - now[axis]);
            a = a.add(step.multiply(step));
            b = b.add(step.multiply(start).shiftLeft(1));
            c = c.add(start.multiply(start));
        }
        if (c.signum() < 0 || a.add(b).add(c).signum() < 0) {
            return true;
        }
        BigInteger roots = b.multiply(b).subtract(a.multiply(c).shiftLeft(2));
        return b.signum() < 0 && b.negate().compareTo(a.shiftLeft(1)) < 0 && roots.signum() > 0;
    }

    int clash(int a, int b) {
        if (!has(a) || !has(b)) {
            return -1;
        }
        if (a == b) {
            return -2;
        }
        return clashes(pass, a, b, pass.delays[a], pass.delays[b], gap) ? 1 : 0;
    }

    private boolean zoned(int[] from, int[] to) {
        long[] now = {from[0] - zone[0], from[1] - zone[1], 0};
        long[] then = {to[0] - zone[0], to[1] - zone[1], 0};
        return nearer(now, then, zone[2]);
    }

    int enters(int i) {
        return has(i) ? (zoned(pass.from[i], pass.to[pass.goals[i]]) ? 1 : 0) : -1;
    }

    private boolean isClean(Pass some, int[] delays) {
        for (int a = 0; a < some.from.length; a++) {
            if (zoned(some.from[a], some.to[some.goals[a]])) {
                return false;
            }
            for (int b = 0; b < a; b++) {
                List<Integer> key = List.of(a, b, delays[a], delays[b], gap);
                if (!some.known.containsKey(key)) {
                    some.known.put(key, clashes(some, a, b, delays[a], delays[b], gap));
                }
                if (some.known.get(key)) {
                    return false;
                }
            }
        }
        return true;
    }

    int clean() {
        return pass == null ? -3 : (isClean(pass, pass.delays) ? 1 : 0);
    }

    int part() {
        if (pass == null) {
            return -3;
        }
        int free = Math.min(6, pass.from.length);
        int[] best = null;
        int bestSum = 1000;
        for (int code = 0; code < 1 << (2 * free); code++) {
            int[] delays = new int[pass.from.length];
            int sum = 0;
            for (int i = 0; i < free; i++) {
                delays[i] = code >> (2 * (free - 1 - i)) & 3;
                sum += delays[i];
            }
            if (sum < bestSum && isClean(pass, delays)) {
                best = delays;
                bestSum = sum;
            }
        }
        if (best == null) {
            return -3;
        }
        pass.delays = best;
        return bestSum;
    }

    int scene(int figure, int ticks, int hold, int colour) {
        if (figure < 0 || figure >= figures.size()) {
            return -1;
        }
        if (ticks < 1 || ticks > 30 || hold < 0 || hold > 100 || colour < 0 || colour > 255) {
            return -2;
        }
        if (figures.get(figure).length != pads.size()) {
            return -3;
        }
        if (scenes.size() == 12) {
            return -4;
        }
        scenes.add(new Scene(figure, ticks, hold, colour));
        return scenes.size() - 1;
    }

    private Pass into(int scene) {
        int[][] from = scene == 0 ? picture(-1) : picture(scenes.get(scene - 1).figure());
        if (scene == scenes.size()) {
            return passOf(from, picture(-1), scenes.get(scene - 1).ticks());
        }
        return passOf(from, picture(scenes.get(scene).figure()), scenes.get(scene).ticks());
    }

    /** Where a flyer stands in a scene; in the one behind the last, on which pad. */
    private int standing(int flyer, int scene) {
        return into(scene).goals[scene == 0 ? flyer : standing(flyer, scene - 1)];
    }

    private boolean isFlyer(int flyer) {
        return flyer >= 0 && flyer < pads.size();
    }

    int stands(int flyer, int scene) {
        return isFlyer(flyer) && scene >= 0 && scene < scenes.size() ? standing(flyer, scene) : -1;
    }

    int lands(int flyer) {
        if (!isFlyer(flyer)) {
            return -1;
        }
        return scenes.isEmpty() ? -3 : standing(flyer, scenes.size());
    }

    int length() {
        int sum = 0;
        for (Scene scene : scenes) {
            sum += scene.ticks() + scene.hold();
        }
        return scenes.isEmpty() ? 0 : sum + scenes.get(scenes.size() - 1).ticks();
    }

    int left(int flyer) {
        if (!isFlyer(flyer)) {
            return -1000000;
        }
        int left = charges.get(flyer);
        int height = 0;
        for (int i = 0; i < scenes.size(); i++) {
            Scene scene = scenes.get(i);
            int next = figures.get(scene.figure())[standing(flyer, i)][2];
            left -= scene.ticks() * (next > height ? 4 : 3) + 2 * scene.hold();
            height = next;
        }
        return scenes.isEmpty() ? left : left - 3 * scenes.get(scenes.size() - 1).ticks();
    }

    int last() {
        int bits = 0;
        for (int flyer = 0; flyer < pads.size(); flyer++) {
            bits += left(flyer) >= margin ? 1 << flyer : 0;
        }
        return bits;
    }

    int margin(int n) {
        if (n < 0 || n > 10000) {
            return -2;
        }
        int was = margin;
        margin = n;
        return was;
    }

    int colour(int tick) {
        if (scenes.isEmpty() || tick < 0 || tick > length()) {
            return -1;
        }
        List<Integer> light = new ArrayList<>();
        light.add(0);
        int cue = 0;
        for (Scene scene : scenes) {
            cue = fadeInto(light, cue, scene.colour(), scene.ticks());
            for (int i = 0; i < scene.hold(); i++) {
                light.add(cue);
            }
        }
        fadeInto(light, cue, 0, scenes.get(scenes.size() - 1).ticks());
        return light.get(tick);
    }

    private static int fadeInto(List<Integer> light, int cue, int next, int ticks) {
        for (int i = 1; i <= ticks; i++) {
            int much = Math.abs(next - cue) * i / ticks;
            light.add(next > cue ? cue + much : cue - much);
        }
        return next;
    }

    int unclean() {
        int bits = 0;
        for (int i = 0; !scenes.isEmpty() && i <= scenes.size(); i++) {
            if (!isClean(into(i), new int[10])) {
                bits += 1 << (i == scenes.size() ? 12 : i);
            }
        }
        return bits;
    }

    int fails(int flyer, int scene, int what) {
        boolean there = isFlyer(flyer) && scene >= 0 && scene < scenes.size();
        if (!there || what < 0 || what > 1) {
            return -1;
        }
        int[][] points = figures.get(scenes.get(scene).figure());
        int least = 10;
        for (int[] point : points) {
            least = Math.min(least, point[3]);
        }
        if (what == 0) {
            return least;
        }
        if (points[standing(flyer, scene)][3] == least) {
            return -2;
        }
        int helper = 0;
        while (points[standing(helper, scene)][3] != least) {
            helper++;
        }
        return helper;
    }

    int cut() {
        if (scenes.isEmpty()) {
            return -3;
        }
        scenes.remove(scenes.size() - 1);
        return scenes.size();
    }

    private int allMarks() {
        return marks.stream().mapToInt(TreeMap::size).sum();
    }

    int mark(int flyer, int tick, int x, int y, int z) {
        if (flyer < 0 || flyer > 9) {
            return -1;
        }
        boolean told = tick >= 0 && tick <= 999 && x >= -200 && x <= 200 && y >= -200 && y <= 200;
        if (!told || z < 0 || z > 200) {
            return -2;
        }
        if (!marks.get(flyer).isEmpty() && marks.get(flyer).lastKey() >= tick) {
            return -2;
        }
        if (allMarks() == 200) {
            return -4;
        }
        marks.get(flyer).put(tick, new int[] {x, y, z});
        return allMarks();
    }

    int first() {
        for (int tick = 0; tick <= 999; tick++) {
            for (int a = 0; a < 10; a++) {
                for (int b = a; b < 10; b++) {
                    if (a == b ? zonedAt(a, tick) : nearAt(a, b, tick)) {
                        who = new int[] {a, a == b ? -1 : b};
                        return tick;
                    }
                }
            }
        }
        return -1;
    }

    private boolean zonedAt(int flyer, int tick) {
        int[] now = marks.get(flyer).get(tick);
        int[] then = marks.get(flyer).get(tick + 1);
        return now != null && (zoned(now, now) || then != null && zoned(now, then));
    }

    private boolean nearAt(int a, int b, int tick) {
        int[] nowA = marks.get(a).get(tick);
        int[] nowB = marks.get(b).get(tick);
        if (nowA == null || nowB == null) {
            return false;
        }
        if (way(nowA, nowB) < gap * gap) {
            return true;
        }
        int[] thenA = marks.get(a).get(tick + 1);
        int[] thenB = marks.get(b).get(tick + 1);
        return thenA != null && thenB != null && nearer(apart(nowA, nowB), apart(thenA, thenB), gap);
    }

    private static long[] apart(int[] a, int[] b) {
        return new long[] {a[0] - b[0], a[1] - b[1], a[2] - b[2]};
    }

    int who(int what) {
        return what == 0 || what == 1 ? who[what] : -1;
    }

    int wipe() {
        int was = allMarks();
        marks.forEach(TreeMap::clear);
        return was;
    }

    int count(int what) {
        int[] counts = {pads.size(), figures.size(), scenes.size(), allMarks(), tape.length(), gap, margin};
        return what >= 0 && what < counts.length ? counts[what] : -1;
    }
}
