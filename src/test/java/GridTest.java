import java.util.ArrayList;
import java.util.Arrays;
import java.util.List;

/**
 * Every call with every choice of its boundary numbers, in states from empty to full, held against the
 * Model: the answer (so of several refusals the first one), and all that the object answers behind it
 * (so that a refused call changes nothing).
 */
public final class GridTest {
    private static final Due due = new Due("GridTest");
    private static final long LEAST = Integer.MIN_VALUE;
    private static final long MOST = Integer.MAX_VALUE;
    private static final int CALLS_MOST = 512;
    private static final long[] ACROSS = {LEAST, -201, -200, 200, 201, MOST};
    private static final long[] FIGURE = {LEAST, -2, -1, 0, 1, 2, 7, 8, MOST};
    private static final long[] ONE = {LEAST, -1, 0, 1, 2, 3, 9, 10, MOST};

    public static void main(String[] args) {
        for (List<String> state : states()) {
            all(state);
        }
        due.end();
    }

    private static List<List<String>> states() {
        return List.of(List.of(), few(), some(), noFlyers(), noScenes(), fullOfAll(), fullOfMarks());
    }

    private static List<String> few() {
        return List.of("flyer(0, 0, 100)", "figure(0,0,9:9)", "pass(-1, 0, 1)", "mark(0, 5, 0, 0, 0)", "tape(1,2,3)");
    }

    private static List<String> some() {
        return List.of("flyer(0, 0, 100)", "flyer(40, 0, 50)", "flyer(0, 40, 90)", "figure(0,0,9:4;40,3,9:1;0,50,60:1)",
                "figure(50,0,9:0;9,3,9:1;0,60,50:7)", "figure(0,0,0:0;9,9,9:9)", "pass(0, 1, 7)", "delay(1, 3)", "delay(2, 9)",
                "scene(0, 3, 1, 90)", "scene(1, 2, 0, 40)", "zone(70, 9, 20)", "mark(0, 5, 0, 0, 0)", "mark(0, 6, 60, 0, 0)",
                "mark(3, 5, 60, 9, 0)", "mark(3, 6, 0, 9, 0)", "gap(9)", "first()", "gap(10)", "margin(40)", "tape(1,2,3:4;)");
    }

    private static List<String> noFlyers() {
        return List.of("figure(0,0,0:0;20,0,0:1;40,0,0:2)", "figure(5,5,5:5)", "mark(9, 998, 0, 0, 0)", "mark(0, 998, 9, 0, 0)",
                "first()", "wipe()", "tape(-)");
    }

    private static List<String> noScenes() {
        return List.of("flyer(0, 0, 100)", "flyer(40, 0, 50)", "figure(0,0,9:4;40,3,9:1)", "figure(0,0,9:4)", "scene(0, 3, 1, 90)",
                "pass(0, -1, 30)", "delay(0, 9)", "cut()", "gap(0)", "zone(0, 0, 200)");
    }

    /** Ten flyers, eight figures, twelve scenes, 300 bytes. */
    private static List<String> fullOfAll() {
        List<String> calls = new ArrayList<>();
        StringBuilder text = new StringBuilder();
        for (int i = 0; i < 10; i++) {
            calls.add("flyer(" + (40 * i - 180) + ", " + i + ", " + 100 * i + ")");
            text.append(i > 0 ? ";" : "").append(180 - 40 * i).append(",9,").append(i % 3).append(":").append(i);
        }
        calls.add("figure(" + text + ")");
        for (int i = 1; i < 8; i++) {
            calls.add("figure(" + i + ",0,0:" + i + ")");
        }
        for (int i = 0; i < 12; i++) {
            calls.add("scene(0, " + (i + 1) + ", " + i + ", " + 20 * i + ")");
        }
        for (int fed = 0; fed < 296; fed += 8) {
            calls.add("feed(" + fed + ", 8)");
        }
        calls.add("feed(0, 4)");
        calls.add("pass(-1, 0, 5)");
        calls.add("delay(9, 9)");
        return calls;
    }

    private static List<String> fullOfMarks() {
        List<String> calls = new ArrayList<>();
        for (int i = 0; i < 200; i++) {
            calls.add("mark(" + i % 10 + ", " + (1 + i / 10) + ", " + (40 * (i % 10) - 180) + ", " + i + ", 0)");
        }
        calls.add("flyer(0, 0, 0)");
        return calls;
    }

    private static void all(List<String> state) {
        long[] ticks = {LEAST, 0, 1, 30, 31, MOST};
        long[] what = {LEAST, -1, 0, 1, 2, 3, 4, MOST};
        Grid grid = new Grid(state);
        grid.ask("flyer", ACROSS, ACROSS, new long[] {LEAST, -1, 0, 100000, 100001, MOST});
        grid.ask("feed", new long[] {Long.MIN_VALUE, '1', Long.MAX_VALUE}, new long[] {LEAST, -1, 0, 1, 4, 5, 8, 9, MOST});
        grid.ask("figure");
        grid.ask("point", FIGURE, new long[] {LEAST, -2, -1, 0, 2, 3, 9, 10, MOST}, what);
        grid.ask("spread", FIGURE);
        grid.ask("gap", new long[] {LEAST, -1, 0, 100, 101, MOST});
        grid.ask("zone", ACROSS, ACROSS, new long[] {LEAST, -1, 0, 200, 201, MOST});
        grid.ask("pass", FIGURE, FIGURE, ticks);
        grid.ask("goes", ONE);
        grid.ask("delay", ONE, new long[] {LEAST, -1, 0, 9, 10, MOST});
        grid.ask("clash", ONE, ONE);
        grid.ask("enters", ONE);
        grid.ask("clean");
        grid.ask("part");
        grid.ask("scene", FIGURE, ticks, new long[] {LEAST, -1, 0, 100, 101}, new long[] {-1, 0, 255, 256, MOST});
        grid.ask("stands", ONE, new long[] {LEAST, -1, 0, 1, 2, 11, 12, MOST});
        grid.ask("lands", ONE);
        grid.ask("length");
        grid.ask("left", ONE);
        grid.ask("last");
        grid.ask("margin", new long[] {LEAST, -1, 0, 10000, 10001, MOST});
        grid.ask("colour", new long[] {LEAST, -1, 0, 1, 8, 9, 12, 155, 156, 157, MOST});
        grid.ask("unclean");
        grid.ask("fails", ONE, new long[] {LEAST, -1, 0, 1, 2, 11, 12, MOST}, what);
        grid.ask("cut");
        grid.ask("mark", new long[] {LEAST, -1, 0, 9, 10, MOST}, new long[] {LEAST, -1, 0, 5, 6, 21, 999, 1000, MOST},
                new long[] {-201, -200, 200}, new long[] {-200, 200, 201}, new long[] {-1, 0, 200, 201});
        grid.ask("first");
        grid.ask("who", what);
        grid.ask("wipe");
        grid.ask("count", new long[] {LEAST, -1, 0, 1, 2, 3, 4, 5, 6, 7, MOST});
    }

    /** The calls in one state. */
    private static final class Grid {
        private final List<String> state;
        private final List<String> untouched;

        Grid(List<String> state) {
            this.state = state;
            untouched = Answers.of(prepared(new Model()));
            int calls = 1 + untouched.size();
            for (String call : state) {
                calls += Calls.many(call);
            }
            if (calls > CALLS_MOST) {
                throw new IllegalStateException(calls + " calls of one object");
            }
        }

        private Object prepared(Object some) {
            for (String call : state) {
                Calls.ask(some, call);
            }
            return some;
        }

        void ask(String name, long[]... choices) {
            long[] n = new long[choices.length];
            int many = 1;
            for (long[] some : choices) {
                many *= some.length;
            }
            for (int code = 0; code < many; code++) {
                int rest = code;
                for (int i = 0; i < n.length; i++) {
                    n[i] = choices[i][rest % choices[i].length];
                    rest /= choices[i].length;
                }
                one(name, n);
            }
        }

        private void one(String name, long[] n) {
            Object lights = prepared(new SkyLights());
            Object model = prepared(new Model());
            int want = Calls.ask(model, name, n);
            String call = name + Arrays.toString(n) + " behind " + state.size() + " calls";
            due.is(call, Calls.ask(lights, name, n), want);
            List<String> behind = isRefusal(name, want) ? untouched : Answers.of(model);
            List<String> got = Answers.of(lights);
            if (!got.equals(behind)) {
                due.is(call + ": what is answered behind it", 1, 0);
                tell(got, behind);
            }
        }

        private static boolean isRefusal(String name, int answer) {
            return answer < 0 && answer > -10 && !name.equals("first") && !name.equals("figure");
        }

        private static void tell(List<String> got, List<String> want) {
            for (int i = 0; i < Math.min(got.size(), want.size()); i++) {
                if (!got.get(i).equals(want.get(i))) {
                    System.out.println("    " + got.get(i) + ", due is " + want.get(i));
                    return;
                }
            }
        }
    }
}
