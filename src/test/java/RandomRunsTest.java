import java.util.ArrayList;
import java.util.Arrays;
import java.util.List;
import java.util.Random;

/** Random runs of calls, each answer held against the Model's. The seeds are fixed. */
public final class RandomRunsTest {
    private static final int RUNS = 400;
    private static final int CALLS_MOST = 512;
    private static final int[] WILD = {
        Integer.MIN_VALUE, Integer.MIN_VALUE + 1, -1000000, -201, -200, -11, -3, -2, -1, 0, 1, 2, 3, 4, 5, 6, 7,
        8, 9, 10, 11, 12, 13, 29, 30, 31, 99, 100, 101, 200, 201, 255, 256, 300, 998, 999, 1000, 10000, 10001,
        100000, 100001, Integer.MAX_VALUE - 1, Integer.MAX_VALUE
    };

    private final Random random;
    private final SkyLights lights = new SkyLights();
    private final Model model = new Model();
    private final Due due;
    private final StringBuilder calls = new StringBuilder();
    private final int step;
    private final int ticks;
    private final int reach;
    private final int team;
    // Points of a figure and pads are so far apart, where there is room: else no pass would be clean.
    private final int room;
    private final List<int[]> pads = new ArrayList<>();
    private int left = CALLS_MOST;

    private RandomRunsTest(long seed, Due due) {
        random = new Random(seed);
        this.due = due;
        int[] steps = {1, 1, 3, 5, 10, 20, 50};
        step = steps[random.nextInt(steps.length)];
        ticks = random.nextInt(2) == 0 ? 6 : 30;
        int[] reaches = {20, 40, 100, 200};
        reach = reaches[random.nextInt(reaches.length)];
        team = random.nextInt(4) == 0 ? 10 : 1 + random.nextInt(10);
        room = random.nextInt(3) * random.nextInt(reach / 3);
    }

    public static void main(String[] args) {
        Due due = new Due("RandomRunsTest");
        int from = args.length > 0 ? Integer.parseInt(args[0]) : 0;
        int to = args.length > 1 ? Integer.parseInt(args[1]) : RUNS;
        for (int seed = from; seed < to; seed++) {
            new RandomRunsTest(seed, due).run(seed);
        }
        due.end();
    }

    private void run(int seed) {
        calls.append("seed ").append(seed);
        if (random.nextInt(10) > 0) {
            for (int i = 0; i < team; i++) {
                int[] pad = apart(pads, false);
                call("flyer", pad[0], pad[1], random.nextInt(2000));
            }
        }
        int figures = random.nextInt(9);
        for (int i = 0; i < figures; i++) {
            tellFigure(random.nextInt(4) > 0 ? team : 1 + random.nextInt(10));
        }
        if (random.nextInt(6) > 0) {
            call("gap", random.nextInt(2) == 0 ? random.nextInt(5) : Math.min(100, room + random.nextInt(3) - 1));
        }
        int marks = random.nextInt(3) == 0 ? random.nextInt(230) : 0;
        int pace = 1 + random.nextInt(3);
        for (int i = 0; i < marks; i++) {
            call("mark", random.nextInt(10), pace * i / 8 + random.nextInt(2), across(), across(), up());
        }
        while (left > 0) {
            any();
        }
    }

    private void any() {
        int what = random.nextInt(36);
        switch (what) {
            case 0 -> call("flyer", wild(across()), wild(across()), wild(random.nextInt(3000)));
            case 1 -> tellFigure(random.nextInt(3) > 0 ? team : 1 + random.nextInt(10));
            case 2 -> call("figure");
            case 3 -> call("point", wild(figure()), wild(random.nextInt(12) - 1), wild(random.nextInt(4)));
            case 4 -> call("spread", wild(figure()));
            case 6 -> call("gap", wild(random.nextInt(2 + room)));
            case 14, 31 -> call("part");
            case 13 -> call("clean");
            case 18 -> call("length");
            case 20 -> call("last");
            case 7 -> call("zone", wild(across()), wild(across()), wild(random.nextInt(4) * random.nextInt(20)));
            case 8, 5, 32 -> call("pass", wild(fitting()), wild(fitting()), wild(1 + random.nextInt(ticks)));
            case 9 -> call("goes", wild(random.nextInt(10)));
            case 10, 33 -> call("delay", wild(random.nextInt(team)), wild(random.nextInt(10)));
            case 11 -> call("clash", wild(random.nextInt(team)), wild(random.nextInt(team)));
            case 12 -> call("enters", wild(random.nextInt(team)));
            case 15, 34, 35 -> call("scene", wild(fitting()), wild(1 + random.nextInt(30)), wild(random.nextInt(101)),
                    wild(random.nextInt(256)));
            case 16 -> call("stands", wild(random.nextInt(team)), wild(random.nextInt(1 + model.count(2))));
            case 17 -> call("lands", wild(random.nextInt(team)));
            case 19 -> call("left", wild(random.nextInt(team)));
            case 21 -> call("margin", wild(random.nextInt(500)));
            case 22 -> call("colour", wild(random.nextInt(1 + Math.max(0, model.length()))));
            case 24 -> call("fails", wild(random.nextInt(team)), wild(random.nextInt(1 + model.count(2))),
                    wild(random.nextInt(2)));
            case 25 -> call(random.nextInt(4) == 0 ? "cut" : "unclean");
            case 23 -> call(random.nextInt(2) == 0 ? "unclean" : "part");
            case 27 -> call("mark", wild(random.nextInt(10)), wild(random.nextInt(60)), wild(across()),
                    wild(across()), wild(up()));
            case 29 -> call("who", wild(random.nextInt(2)));
            case 30 -> call(random.nextInt(12) == 0 ? "wipe" : "first");
            case 26 -> call("count", wild(random.nextInt(7)));
            default -> call("first");
        }
    }

    private void tellFigure(int points) {
        if (model.count(1) == 8 && random.nextInt(8) > 0) {
            return;
        }
        StringBuilder text = new StringBuilder();
        List<int[]> told = new ArrayList<>();
        for (int i = 0; i < points; i++) {
            int[] point = apart(told, true);
            text.append(i > 0 ? ";" : "").append(point[0]).append(',').append(point[1]).append(',');
            text.append(point[2]).append(':').append(random.nextInt(10));
        }
        if (random.nextInt(8) == 0) {
            spoil(text);
        }
        for (int i = 0; i < text.length(); i += 8) {
            String part = text.substring(i, Math.min(text.length(), i + 8));
            call("feed", Tapes.word(part), part.length());
        }
        if (random.nextInt(20) > 0) {
            call("figure");
        }
    }

    private void spoil(StringBuilder text) {
        int place = random.nextInt(text.length());
        String signs = "0123456789-,:; \u0000\u00ff+.x";
        switch (random.nextInt(4)) {
            case 0 -> text.setLength(place);
            case 1 -> text.deleteCharAt(place);
            case 2 -> text.insert(place, signs.charAt(random.nextInt(signs.length())));
            default -> text.setCharAt(place, signs.charAt(random.nextInt(signs.length())));
        }
    }

    /** A point more, away from the others if a few tries find room. */
    private int[] apart(List<int[]> others, boolean high) {
        int[] point = {across(), across(), high ? up() : 0};
        for (int tries = 0; tries < 60 && isTight(others, point); tries++) {
            point = new int[] {across(), across(), high ? up() : 0};
        }
        others.add(point);
        return point;
    }

    private boolean isTight(List<int[]> others, int[] point) {
        for (int[] other : others) {
            int x = other[0] - point[0];
            int y = other[1] - point[1];
            int z = other[2] - point[2];
            if (x * x + y * y + z * z < room * room) {
                return true;
            }
        }
        return false;
    }

    /** A picture, most often one of as many points as there are flyers, if there is one. */
    private int fitting() {
        int figure = figure();
        for (int tries = 0; tries < 5; tries++) {
            if (model.point(figure, -1, 0) == model.count(0)) {
                return figure;
            }
            figure = figure();
        }
        return figure;
    }

    private int across() {
        return (random.nextInt(2 * reach + 1) - reach) / step * step;
    }

    private int up() {
        return random.nextInt(reach + 1) / step * step;
    }

    private int figure() {
        return random.nextInt(Math.max(1, model.count(1)) + 1) - 1;
    }

    private int wild(int tame) {
        return random.nextInt(25) == 0 ? WILD[random.nextInt(WILD.length)] : tame;
    }

    private void call(String name, long... n) {
        if (left > 0) {
            left--;
            calls.append(' ').append(name).append(Arrays.toString(n));
            int got = Calls.ask(lights, name, n);
            int want = Calls.ask(model, name, n);
            due.is(got == want ? "" : calls.toString(), got, want);
        }
    }
}
