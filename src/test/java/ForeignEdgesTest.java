/** The boundaries that the Terms 4 and 5 and the promises 27 to 31 name, each from either side. */
public final class ForeignEdgesTest {
    private static final Due due = new Due("ForeignEdgesTest");
    private static final int NONE = SkyLights.NONE;
    private static final int BAD = SkyLights.BAD;
    private static final int FULL = SkyLights.FULL;

    public static void main(String[] args) {
        markFlyer();
        markTick();
        markRises();
        markPlaces();
        markTwoHundredth();
        markFirstRefusal();
        firstOfNone();
        firstTicks();
        firstJustSoFar();
        firstOnTheWay();
        firstAtTheNextTick();
        firstAlone();
        firstWithoutTheNext();
        firstGaps();
        firstZone();
        firstZoneOnTheWay();
        firstZoneAlone();
        firstIsTheLeast();
        firstOfManyMarks();
        whoEdges();
        whoFirst();
        whoOfTheLatest();
        wipeEdges();
        wipeLeavesTheRest();
        countEdges();
        countOfAll();
        due.end();
    }

    private static Run run(String name) {
        return new Run(due, name);
    }

    /** Marks, each "flyer, tick, x, y, z". */
    private static Run marks(String name, String... texts) {
        Run run = run(name);
        for (int i = 0; i < texts.length; i++) {
            run.is("mark(" + texts[i] + ")", i + 1);
        }
        return run;
    }

    private static void markFlyer() {
        marks("mark, flyer", "0, 5, 0, 0, 0", "9, 5, 100, 0, 0")
                .refusesAll(NONE, "mark(-1, 5, 0, 0, 0)", "mark(10, 5, 0, 0, 0)", "mark(least, 5, 0, 0, 0)")
                .refuses("mark(most, 5, 0, 0, 0)", NONE).is("count(3)", 2).is("count(0)", 0).is("mark(8, 5, 95, 0, 0)", 3)
                .is("first()", 5).is("who(0)", 8).is("who(1)", 9);
    }

    private static void markTick() {
        marks("mark, tick", "0, 0, 0, 0, 0", "0, 999, 0, 0, 0", "1, 0, 5, 0, 0")
                .refusesAll(BAD, "mark(2, -1, 0, 0, 0)", "mark(2, 1000, 0, 0, 0)", "mark(2, least, 0, 0, 0)")
                .refusesAll(BAD, "mark(2, most, 0, 0, 0)", "mark(0, 1000, 0, 0, 0)", "mark(1, -1, 0, 0, 0)")
                .is("count(3)", 3).is("first()", 0).is("mark(1, 999, 5, 0, 0)", 4).is("gap(5)", 10).is("first()", NONE);
    }

    private static void markRises() {
        marks("mark, rising", "3, 5, 0, 0, 0")
                .refusesAll(BAD, "mark(3, 5, 0, 0, 0)", "mark(3, 4, 0, 0, 0)", "mark(3, 0, 0, 0, 0)").is("mark(3, 6, 0, 0, 0)", 2)
                .refusesAll(BAD, "mark(3, 6, 0, 0, 0)", "mark(3, 5, 0, 0, 0)").is("mark(2, 5, 100, 0, 0)", 3)
                .is("mark(4, 0, 100, 0, 0)", 4).is("mark(3, 999, 0, 0, 0)", 5)
                .refusesAll(BAD, "mark(3, 999, 0, 0, 0)", "mark(3, 1000, 0, 0, 0)", "mark(3, 7, 0, 0, 0)").is("count(3)", 5);
        marks("mark, tick 0 twice", "0, 0, 0, 0, 0").refuses("mark(0, 0, 0, 0, 0)", BAD).is("mark(0, 1, 0, 0, 0)", 2);
    }

    private static void markPlaces() {
        marks("mark, places", "0, 1, -200, -200, 0", "0, 2, 200, 200, 200", "1, 1, -195, -200, 0")
                .refusesAll(BAD, "mark(0, 3, -201, 0, 0)", "mark(0, 3, 201, 0, 0)", "mark(0, 3, least, 0, 0)", "mark(0, 3, most, 0, 0)")
                .refusesAll(BAD, "mark(0, 3, 0, -201, 0)", "mark(0, 3, 0, 201, 0)", "mark(0, 3, 0, least, 0)", "mark(0, 3, 0, most, 0)")
                .refusesAll(BAD, "mark(0, 3, 0, 0, -1)", "mark(0, 3, 0, 0, 201)", "mark(0, 3, 0, 0, least)", "mark(0, 3, 0, 0, most)")
                .is("count(3)", 3).is("first()", 1).is("mark(0, 3, 0, 0, 0)", 4).is("mark(1, 3, 5, 0, 0)", 5)
                .is("gap(5)", 10).is("first()", NONE);
    }

    private static Run full(String name) {
        Run run = run(name);
        for (int i = 0; i < 200; i++) {
            run.is("mark(" + i / 20 + ", " + 3 * (i % 20) + ", " + (i / 20 * 40 - 180) + ", 0, 0)", i + 1);
        }
        return run;
    }

    private static void markTwoHundredth() {
        full("two hundred marks").is("count(3)", 200)
                .refusesAll(FULL, "mark(0, 58, 0, 0, 0)", "mark(9, 999, 0, 0, 0)", "mark(5, 60, -200, 200, 200)").is("first()", NONE)
                .is("zone(180, 0, 1)", 0).is("first()", 0).is("who(0)", 9).is("wipe()", 200).is("mark(0, 0, 0, 0, 0)", 1);
        Run run = run("one hundred and ninety nine");
        for (int i = 0; i < 199; i++) {
            run.is("mark(" + i % 10 + ", " + i + ", 0, 0, 0)", i + 1);
        }
        run.is("mark(9, 199, 50, 0, 0)", 200).refuses("mark(8, 199, 50, 9, 0)", FULL).is("first()", NONE);
    }

    private static void markFirstRefusal() {
        full("mark, the first refusal").refusesAll(NONE, "mark(10, 57, 0, 0, 0)", "mark(-1, 58, 0, 0, 0)", "mark(10, 1000, 201, 0, 0)")
                .refusesAll(BAD, "mark(0, 57, 0, 0, 0)", "mark(0, 1000, 0, 0, 0)", "mark(0, 58, 201, 0, 0)")
                .refusesAll(BAD, "mark(0, 58, 0, -201, 0)", "mark(0, 58, 0, 0, -1)").refuses("mark(0, 58, 0, 0, 0)", FULL);
        run("mark, none ahead of bad").refusesAll(NONE, "mark(-1, -1, 0, 0, 0)", "mark(10, 0, 201, 201, 201)").is("count(3)", 0);
    }

    private static void firstOfNone() {
        run("first, no marks").is("first()", NONE).is("who(0)", NONE).is("zone(0, 0, 200)", 0).is("gap(100)", 10)
                .is("first()", NONE).is("flyer(0, 0, 0)", 0).is("flyer(0, 0, 0)", 1).is("first()", NONE);
        marks("first, one alone", "0, 5, 0, 0, 0", "0, 6, 0, 0, 0").is("gap(100)", 10).is("first()", NONE);
    }

    private static void firstTicks() {
        marks("first, tick 0", "0, 0, 0, 0, 0", "1, 0, 0, 0, 9").is("first()", 0).is("who(0)", 0).is("who(1)", 1);
        marks("first, tick 999", "0, 999, 0, 0, 0", "1, 999, 0, 0, 9").is("first()", 999);
        marks("first, behind tick 998", "0, 998, 0, 0, 0", "0, 999, 0, 0, 0", "1, 998, 90, 0, 0", "1, 999, 9, 0, 0")
                .is("first()", 998);
        marks("first, not at one tick", "0, 5, 0, 0, 0", "1, 6, 0, 0, 0", "2, 4, 0, 0, 0").is("gap(100)", 10).is("first()", NONE);
    }

    private static void firstJustSoFar() {
        marks("first, just so far", "0, 7, 0, 0, 0", "1, 7, 0, 6, 8").is("first()", NONE).is("gap(11)", 10).is("first()", 7)
                .is("gap(10)", 11).is("mark(2, 7, 1, 7, 7)", 3).is("first()", 7).is("who(0)", 0).is("who(1)", 2);
        marks("first, 101 and 99", "0, 7, 0, 0, 0", "1, 7, 0, 1, 10").is("first()", NONE).is("mark(0, 8, 0, 0, 0)", 3)
                .is("mark(1, 8, 1, 7, 7)", 4).is("first()", 7);
    }

    private static void firstOnTheWay() {
        marks("on the way, just 10", "0, 3, -50, 0, 0", "0, 4, 50, 0, 0", "1, 3, 50, 10, 0", "1, 4, -50, 10, 0")
                .is("first()", NONE).is("gap(11)", 10).is("first()", 3);
        // By 3, 4 of 0, 0: the nearest is 5, at a third of the tick.
        marks("on the way, just 5", "0, 3, 7, 7, 7", "0, 4, 7, 7, 7", "1, 3, 6, 14, 7", "1, 4, 18, 5, 7").is("gap(5)", 10)
                .is("first()", NONE).is("gap(6)", 5).is("first()", 3);
        marks("on the way, a hair less than 1", "0, 3, 0, 0, 0", "0, 4, 0, 0, 0", "1, 3, -100, 2, 0", "1, 4, 100, 0, 0")
                .is("gap(1)", 10).is("first()", 3);
        marks("on the way, a hair more than 1", "0, 3, 0, 0, 0", "0, 4, 0, 0, 0", "1, 3, -99, 2, 0", "1, 4, 101, 0, 0")
                .is("gap(1)", 10).is("first()", NONE).is("gap(2)", 1).is("first()", 3);
        marks("just 5 at both ticks, a hair nearer between", "0, 3, 0, 0, 0", "0, 4, 0, 0, 0", "1, 3, 3, 4, 0", "1, 4, 4, 3, 0")
                .is("gap(5)", 10).is("first()", 3).is("gap(4)", 5).is("first()", NONE);
        marks("just 5 at both ticks, as one", "0, 3, 0, 0, 0", "0, 4, 9, 0, 0", "1, 3, 3, 4, 0", "1, 4, 12, 4, 0")
                .is("gap(5)", 10).is("first()", NONE).is("gap(6)", 5).is("first()", 3);
        marks("through one another", "0, 3, -200, -200, 0", "0, 4, 200, 200, 200", "1, 3, 200, 200, 200", "1, 4, -200, -200, 0")
                .is("gap(1)", 10).is("first()", 3).is("gap(0)", 1).is("first()", NONE);
    }

    /** Near just at the next tick, and on the ways to it: so they were near ahead of it, too. */
    private static void firstAtTheNextTick() {
        marks("both on their ways", "0, 3, 0, 0, 0", "0, 4, 0, 0, 0", "1, 3, 100, 0, 0", "1, 4, 9, 0, 0").is("first()", 3)
                .is("gap(9)", 10).is("first()", NONE);
        marks("one on its way", "0, 3, 0, 0, 0", "0, 4, 0, 0, 0", "1, 4, 9, 0, 0").is("first()", 4).is("gap(9)", 10)
                .is("first()", NONE);
        marks("neither on its way", "0, 2, 0, 0, 0", "0, 4, 0, 0, 0", "1, 2, 50, 0, 0", "1, 4, 9, 0, 0").is("first()", 4);
    }

    private static void firstAlone() {
        marks("there at its tick alone", "0, 3, -100, 0, 0", "0, 4, 100, 0, 0", "1, 3, 0, 0, 0", "2, 4, 0, 0, 0")
                .is("first()", NONE).is("gap(100)", 10).is("first()", NONE).is("mark(3, 4, 0, 99, 0)", 5).is("first()", 4)
                .is("who(0)", 2).is("who(1)", 3);
        marks("where the other one sets out", "0, 3, -100, 0, 0", "0, 4, 100, 0, 0", "1, 3, -91, 0, 0").is("first()", 3);
        marks("where the other one comes to", "0, 3, -100, 0, 0", "0, 4, 100, 0, 0", "1, 4, 91, 0, 0").is("first()", 4);
    }

    private static void firstWithoutTheNext() {
        marks("a tick between", "0, 3, -100, 0, 0", "0, 5, 100, 0, 0", "1, 3, 100, 0, 0", "1, 5, -100, 0, 0").is("first()", NONE)
                .is("mark(0, 6, -100, 0, 0)", 5).is("first()", NONE).is("mark(1, 6, 100, 0, 0)", 6).is("first()", 5);
        marks("a tick between, at it", "0, 3, 0, 0, 0", "0, 5, 0, 0, 0", "1, 4, 0, 0, 0").is("first()", NONE)
                .is("mark(1, 5, 9, 0, 0)", 4).is("first()", 5);
    }

    private static void firstGaps() {
        marks("gap 0 and 1", "0, 3, 5, 5, 5", "1, 3, 5, 5, 5", "2, 3, 5, 5, 6").is("gap(0)", 10).is("first()", NONE).is("gap(1)", 0)
                .is("first()", 3).is("who(0)", 0).is("who(1)", 1);
        marks("gap 1, 1 apart", "0, 3, 5, 5, 5", "2, 3, 5, 5, 6").is("gap(1)", 10).is("first()", NONE).is("gap(2)", 1)
                .is("first()", 3);
        marks("gap 100", "0, 3, -50, 0, 0", "1, 3, 50, 0, 0").is("gap(100)", 10).is("first()", NONE)
                .is("mark(2, 3, 49, 14, 1)", 3).is("first()", 3).is("who(0)", 0).is("who(1)", 2);
    }

    private static void firstZone() {
        marks("the zone, just so far", "6, 3, 3, 4, 200").is("first()", NONE).is("zone(0, 0, 5)", 0).is("first()", NONE)
                .is("zone(0, 0, 6)", 0).is("first()", 3).is("who(0)", 6).is("who(1)", NONE).is("zone(3, 4, 0)", 0)
                .is("first()", NONE).is("zone(3, 4, 1)", 0).is("first()", 3);
    }

    private static void firstZoneOnTheWay() {
        marks("the zone on the way", "6, 3, -30, 10, 0", "6, 4, 30, 10, 200").is("zone(0, 0, 10)", 0).is("first()", NONE)
                .is("zone(0, 0, 11)", 0).is("first()", 3).is("zone(-33, 14, 5)", 0).is("first()", NONE).is("zone(-33, 14, 6)", 0)
                .is("first()", 3).is("zone(33, 6, 5)", 0).is("first()", NONE).is("zone(33, 6, 6)", 0).is("first()", 3)
                .is("who(0)", 6).is("who(1)", NONE);
        marks("just 5 from the zone at both ticks, nearer between", "0, 3, 3, 4, 0", "0, 4, 4, 3, 0").is("zone(0, 0, 5)", 0)
                .is("first()", 3).is("zone(0, 0, 4)", 0).is("first()", NONE);
        marks("the zone by a hair", "0, 3, -100, 2, 0", "0, 4, 100, 0, 0", "1, 5, -99, 2, 0", "1, 6, 101, 0, 0").is("zone(0, 0, 1)", 0)
                .is("first()", 3).is("who(0)", 0);
        marks("the zone by a hair, not", "1, 5, -99, 2, 0", "1, 6, 101, 0, 0").is("zone(0, 0, 1)", 0).is("first()", NONE);
    }

    private static void firstZoneAlone() {
        marks("the zone between two alone", "6, 3, -30, 0, 0", "6, 5, 30, 0, 0").is("zone(0, 0, 20)", 0).is("first()", NONE)
                .is("zone(30, 0, 1)", 0).is("first()", 5).is("zone(-30, 0, 1)", 0).is("first()", 3);
    }

    private static void firstIsTheLeast() {
        marks("the least tick", "0, 8, 0, 0, 0", "1, 8, 0, 0, 0", "2, 7, 0, 0, 0", "3, 7, 0, 0, 0", "4, 9, 0, 0, 0").is("first()", 7)
                .is("who(0)", 2).is("who(1)", 3).is("mark(5, 6, 50, 0, 0)", 6).is("zone(50, 0, 1)", 0).is("first()", 6)
                .is("who(0)", 5).is("who(1)", NONE).is("zone(0, 0, 1)", 0).is("first()", 7).is("who(0)", 2).is("who(1)", NONE);
    }

    private static void firstOfManyMarks() {
        Run run = run("first, the two hundredth mark");
        for (int i = 0; i < 100; i++) {
            run.is("mark(0, " + (900 + i) + ", 0, 0, 0)", 2 * i + 1);
            run.is("mark(9, " + (900 + i) + ", " + (i == 99 ? 9 : 10) + ", 0, 0)", 2 * i + 2);
        }
        run.is("first()", 998).is("who(0)", 0).is("who(1)", 9).is("gap(9)", 10).is("first()", NONE);
    }

    private static void whoEdges() {
        marks("who", "4, 5, 0, 0, 0", "5, 5, 0, 0, 0").is("who(0)", NONE).is("who(1)", NONE).is("first()", 5).is("who(0)", 4)
                .is("who(1)", 5).refusesAll(NONE, "who(-1)", "who(2)", "who(least)", "who(most)").is("who(0)", 4);
        run("who, nobody").refusesAll(NONE, "who(-1)", "who(2)", "who(0)", "who(1)");
        marks("who, the ends", "0, 5, 0, 0, 0", "9, 5, 0, 0, 0").is("first()", 5).is("who(0)", 0).is("who(1)", 9);
    }

    /** The lesser first; the least first one, then the least second one, the zone ahead of the others. */
    private static void whoFirst() {
        marks("who, told from behind", "9, 5, 0, 0, 0", "8, 5, 0, 0, 0").is("first()", 5).is("who(0)", 8).is("who(1)", 9)
                .is("mark(3, 5, 100, 0, 0)", 3).is("mark(7, 5, 100, 0, 0)", 4).is("first()", 5).is("who(0)", 3).is("who(1)", 7)
                .is("mark(5, 5, 100, 0, 0)", 5).is("first()", 5).is("who(1)", 5).is("zone(0, 0, 9)", 0).is("first()", 5)
                .is("who(0)", 3).is("who(1)", 5).is("zone(100, 0, 9)", 0).is("first()", 5).is("who(0)", 3).is("who(1)", NONE);
        marks("who, at the tick and behind it", "2, 5, 0, 0, 0", "3, 5, 0, 0, 0", "0, 5, 100, 0, 0", "0, 6, 0, 100, 0", "1, 5, 0, 100, 0",
                "1, 6, 100, 0, 0").is("first()", 5).is("who(0)", 0).is("who(1)", 1);
        marks("who, the zone behind the tick", "0, 5, 0, 0, 0", "1, 5, 0, 0, 0", "0, 6, 50, 0, 0").is("first()", 5).is("who(1)", 1)
                .is("zone(50, 0, 5)", 0).is("first()", 5).is("who(0)", 0).is("who(1)", NONE);
    }

    private static void whoOfTheLatest() {
        marks("who, of the latest that told a tick", "4, 5, 0, 0, 0", "5, 5, 9, 0, 0").is("first()", 5).is("gap(9)", 10)
                .is("first()", NONE).is("who(0)", 4).is("who(1)", 5).is("wipe()", 2).is("who(0)", 4).is("first()", NONE)
                .is("who(1)", 5).is("mark(1, 0, 50, 50, 0)", 1).is("zone(50, 50, 5)", 0).is("who(0)", 4).is("first()", 0)
                .is("who(0)", 1).is("who(1)", NONE);
    }

    private static void wipeEdges() {
        run("wipe, no marks").is("wipe()", 0).is("wipe()", 0).is("count(3)", 0).is("mark(0, 0, 0, 0, 0)", 1).is("wipe()", 1)
                .is("wipe()", 0);
        marks("wipe, who is gone", "0, 5, 0, 0, 0", "1, 5, 50, 0, 0", "9, 6, 0, 0, 0").is("wipe()", 3)
                .is("mark(3, 5, 0, 0, 0)", 1).is("mark(4, 6, 0, 0, 0)", 2).is("first()", NONE).is("zone(0, 0, 1)", 0)
                .is("first()", 5).is("who(0)", 3).is("who(1)", NONE);
        full("wipe, all").is("wipe()", 200).is("count(3)", 0).is("wipe()", 0).is("first()", NONE);
        marks("wipe, ticks begin again", "0, 999, 0, 0, 0", "9, 999, 0, 0, 0").is("wipe()", 2).is("mark(0, 0, 0, 0, 0)", 1)
                .is("mark(9, 998, 0, 0, 0)", 2).is("first()", NONE).is("mark(9, 999, 0, 0, 0)", 3).is("first()", NONE)
                .is("mark(0, 999, 0, 0, 0)", 4).is("first()", 999);
    }

    private static void wipeLeavesTheRest() {
        marks("wipe, the rest", "0, 1, 0, 0, 0").is("flyer(7, 7, 7)", 0).is("figure(7,7,7:7)", 0).is("scene(0, 7, 7, 7)", 0)
                .is("tape(7)", 1).is("gap(7)", 10).is("margin(7)", 50).is("pass(0, 0, 7)", 0).is("delay(0, 7)", 0).is("wipe()", 1)
                .is("count(0)", 1).is("count(1)", 1).is("count(2)", 1).is("count(3)", 0).is("count(4)", 1).is("count(5)", 7)
                .is("count(6)", 7).is("delay(0, 7)", 7);
    }

    private static void countEdges() {
        run("count").refusesAll(NONE, "count(-1)", "count(7)", "count(least)", "count(most)").is("count(0)", 0).is("count(1)", 0)
                .is("count(2)", 0).is("count(3)", 0).is("count(4)", 0).is("count(5)", 10).is("count(6)", 50);
    }

    /** Each number by itself: none is another one's. */
    private static void countOfAll() {
        String[] calls = {"flyer(0, 0, 0)", "figure(0,0,0:0)", "scene(0, 1, 1, 1)", "mark(0, 0, 0, 0, 0)", "tape(1,2)", "gap(9)", "margin(9)"};
        int[] answers = {0, 0, 0, 1, 3, 10, 50};
        int[] counts = {0, 0, 0, 0, 0, 10, 50};
        int[] behind = {1, 1, 1, 1, 3, 9, 9};
        Run run = run("count, of all");
        for (int i = 0; i < calls.length; i++) {
            run.is(calls[i], answers[i]);
            counts[i] = behind[i];
            for (int what = 0; what < counts.length; what++) {
                run.is("count(" + what + ")", counts[what]);
            }
        }
        run.refusesAll(NONE, "count(-1)", "count(7)");
    }
}
