/** The boundaries that the Terms 3 and 5 and the promises 16 to 26 name, each from either side. */
public final class ShowEdgesTest {
    private static final Due due = new Due("ShowEdgesTest");
    private static final int NONE = SkyLights.NONE;
    private static final int BAD = SkyLights.BAD;
    private static final int STATE = SkyLights.STATE;
    private static final int FULL = SkyLights.FULL;
    private static final int NONE_LEFT = -1000000;
    private static final int HOME = 1 << 12;

    public static void main(String[] args) {
        sceneFigure();
        sceneTicks();
        sceneHold();
        sceneColour();
        sceneOfAsMany();
        sceneTwelfth();
        sceneFirstRefusal();
        sceneLeavesThePass();
        standsEdges();
        standsOfTen();
        standsWithoutAShow();
        landsEdges();
        landsWithoutAShow();
        lengthEdges();
        leftOfWhom();
        leftUpward();
        leftBelowNought();
        leftInAll();
        lastAtTheMargin();
        lastOfNoneAndTen();
        marginEdges();
        colourMoments();
        colourAtCues();
        colourCut();
        colourWithoutAShow();
        uncleanOfNone();
        uncleanJustSoFar();
        uncleanByTheZone();
        uncleanBits();
        uncleanWithoutDelays();
        failsOfWhom();
        failsLeast();
        failsOfOne();
        failsOfTen();
        cutEdges();
        cutLeavesTheOthers();
        cutLeavesTheRest();
        due.end();
    }

    private static Run run(String name) {
        return new Run(due, name);
    }

    /** One flyer with a charge of 5000, and the figures. */
    private static Run solo(String name, String... texts) {
        Run run = run(name).is("flyer(0, 0, 5000)", 0);
        return figures(run, texts);
    }

    private static Run figures(Run run, String... texts) {
        for (int i = 0; i < texts.length; i++) {
            run.is("figure(" + texts[i] + ")", i);
        }
        return run;
    }

    /** Three who go around by one, each to where the next one was. */
    private static Run trio(String name) {
        Run run = run(name).is("flyer(0, 0, 500)", 0).is("flyer(50, 0, 600)", 1).is("flyer(100, 0, 700)", 2);
        return figures(run, "100,1,0:5;0,1,0:6;50,1,0:7", "0,1,9:1;50,1,9:2;100,1,9:3");
    }

    private static Run ten(String name) {
        Run run = run(name);
        StringBuilder text = new StringBuilder();
        for (int i = 0; i < 10; i++) {
            run.is("flyer(" + (i * 40 - 180) + ", 0, " + i + ")", i);
            text.append(i > 0 ? ";" : "").append(180 - i * 40).append(",0,0:").append(9 - i);
        }
        return run.is("figure(" + text + ")", 0);
    }

    private static void sceneFigure() {
        solo("scene, figure", "0,0,1:0", "0,0,2:0").is("scene(0, 1, 0, 0)", 0).is("scene(1, 1, 0, 0)", 1)
                .refusesAll(NONE, "scene(-1, 1, 0, 0)", "scene(2, 1, 0, 0)", "scene(8, 1, 0, 0)", "scene(least, 1, 0, 0)")
                .refuses("scene(most, 1, 0, 0)", NONE).is("count(2)", 2).is("figure(0,0,3:0)", 2).is("scene(2, 1, 0, 0)", 2);
        run("scene without figures").is("flyer(0, 0, 0)", 0).refusesAll(NONE, "scene(0, 1, 0, 0)", "scene(-1, 1, 0, 0)");
    }

    private static void sceneTicks() {
        solo("scene, ticks", "0,0,1:0").is("scene(0, 1, 5, 5)", 0).is("length()", 7).is("scene(0, 30, 5, 5)", 1).is("length()", 71)
                .refusesAll(BAD, "scene(0, 0, 5, 5)", "scene(0, 31, 5, 5)", "scene(0, -1, 5, 5)", "scene(0, least, 5, 5)")
                .refuses("scene(0, most, 5, 5)", BAD).is("count(2)", 2);
    }

    private static void sceneHold() {
        solo("scene, hold", "0,0,1:0").is("scene(0, 5, 0, 5)", 0).is("length()", 10).is("scene(0, 5, 100, 5)", 1).is("length()", 115)
                .refusesAll(BAD, "scene(0, 5, -1, 5)", "scene(0, 5, 101, 5)", "scene(0, 5, least, 5)", "scene(0, 5, most, 5)")
                .is("count(2)", 2);
    }

    private static void sceneColour() {
        solo("scene, colour", "0,0,1:0").is("scene(0, 5, 5, 0)", 0).is("colour(5)", 0).is("scene(0, 5, 5, 255)", 1)
                .is("colour(15)", 255)
                .refusesAll(BAD, "scene(0, 5, 5, -1)", "scene(0, 5, 5, 256)", "scene(0, 5, 5, least)", "scene(0, 5, 5, most)")
                .is("count(2)", 2);
    }

    private static void sceneOfAsMany() {
        String[] texts = {"0,0,1:0", "0,0,1:0;50,0,1:0", "0,0,1:0;50,0,1:0;100,0,1:0"};
        figures(run("scene, as many"), texts)
                .refusesAll(STATE, "scene(0, 1, 0, 0)", "scene(1, 1, 0, 0)").is("flyer(0, 0, 0)", 0)
                .refusesAll(STATE, "scene(1, 1, 0, 0)", "scene(2, 1, 0, 0)").is("flyer(50, 0, 0)", 1)
                .refusesAll(STATE, "scene(0, 1, 0, 0)", "scene(2, 1, 0, 0)").is("scene(1, 1, 0, 0)", 0)
                .refusesAll(STATE, "scene(0, 1, 0, 0)", "scene(2, 1, 0, 0)").is("count(2)", 1);
        ten("scene of ten").is("figure(0,0,0:0)", 1).refuses("scene(1, 1, 0, 0)", STATE).is("scene(0, 1, 0, 0)", 0);
    }

    private static Run twelve(String name) {
        Run run = solo(name, "0,0,1:1", "0,0,2:2", "0,0,0:0;50,0,0:0");
        for (int i = 0; i < 12; i++) {
            run.is("count(2)", i).is("scene(" + i % 2 + ", 2, 1, " + i + ")", i);
        }
        return run;
    }

    private static void sceneTwelfth() {
        twelve("twelve scenes").refusesAll(FULL, "scene(0, 1, 0, 0)", "scene(1, 30, 100, 255)").is("count(2)", 12)
                .is("stands(0, 11)", 0).refuses("stands(0, 12)", NONE).is("fails(0, 11, 0)", 2).is("fails(0, 10, 0)", 1)
                .is("length()", 38).is("colour(35)", 11).is("colour(36)", 11).is("colour(38)", 0).is("cut()", 11)
                .is("scene(0, 30, 100, 255)", 11).refuses("scene(0, 1, 0, 0)", FULL).is("length()", 33 + 160);
    }

    private static void sceneFirstRefusal() {
        twelve("scene, the first refusal")
                .refusesAll(NONE, "scene(3, 0, 0, 0)", "scene(-1, 1, 101, 0)", "scene(3, 1, 0, 256)", "scene(3, 1, 0, 0)")
                .refusesAll(BAD, "scene(2, 0, 0, 0)", "scene(2, 1, -1, 0)", "scene(2, 1, 0, 256)", "scene(0, 31, 0, 0)")
                .refuses("scene(2, 1, 0, 0)", STATE).refuses("scene(0, 1, 0, 0)", FULL);
        figures(run("scene, bad ahead of state"), "0,0,0:0").refusesAll(BAD, "scene(0, 0, 0, 0)", "scene(0, 1, 101, 0)")
                .refusesAll(NONE, "scene(1, 0, 0, 0)", "scene(-1, 1, 0, 0)").refuses("scene(0, 1, 0, 0)", STATE);
    }

    /** The passes of the show are not the one that goes(), delay() and the others are about. */
    private static void sceneLeavesThePass() {
        solo("the latest pass beside a show", "0,0,9:0", "9,0,0:0").is("pass(0, 1, 5)", 162).is("delay(0, 4)", 0)
                .is("scene(1, 3, 3, 3)", 0).is("scene(0, 3, 3, 3)", 1).is("delay(0, 4)", 4).is("cut()", 1).is("delay(0, 4)", 4)
                .is("pass(1, -1, 9)", 81).is("length()", 9);
    }

    private static void standsEdges() {
        trio("stands").is("scene(0, 5, 0, 0)", 0).is("stands(0, 0)", 1).is("stands(1, 0)", 2).is("stands(2, 0)", 0)
                .refusesAll(NONE, "stands(0, 1)", "stands(2, 1)").is("scene(1, 5, 0, 0)", 1).is("stands(0, 1)", 0)
                .is("stands(1, 1)", 1).is("stands(2, 1)", 2).is("stands(0, 0)", 1).is("stands(1, 0)", 2).is("stands(2, 0)", 0)
                .refusesAll(NONE, "stands(-1, 0)", "stands(3, 0)", "stands(10, 0)", "stands(least, 0)", "stands(most, 0)")
                .refusesAll(NONE, "stands(0, -1)", "stands(0, 2)", "stands(0, 12)", "stands(0, least)", "stands(0, most)")
                .is("cut()", 1).refuses("stands(0, 1)", NONE).is("stands(0, 0)", 1).is("cut()", 0).refuses("stands(0, 0)", NONE);
    }

    private static void standsOfTen() {
        Run run = ten("stands, ten").is("scene(0, 5, 0, 0)", 0);
        for (int i = 0; i < 10; i++) {
            run.is("stands(" + i + ", 0)", 9 - i).is("lands(" + i + ")", i);
        }
        run.refusesAll(NONE, "stands(10, 0)", "lands(10)", "fails(10, 0, 0)").refuses("left(10)", NONE_LEFT);
    }

    private static void standsWithoutAShow() {
        run("stands, nobody").refusesAll(NONE, "stands(0, 0)", "stands(-1, -1)").is("flyer(0, 0, 0)", 0)
                .refusesAll(NONE, "stands(0, 0)", "stands(0, -1)");
    }

    private static void landsEdges() {
        trio("lands").is("scene(0, 5, 0, 0)", 0).is("lands(0)", 0).is("lands(1)", 1).is("lands(2)", 2)
                .refusesAll(NONE, "lands(-1)", "lands(3)", "lands(10)", "lands(least)", "lands(most)");
        // All are as far: point 0 goes to pad 0, though flyer 1 stands there.
        Run run = run("lands on another pad").is("flyer(-10, 0, 0)", 0).is("flyer(10, 0, 0)", 1);
        figures(run, "0,10,0:0;0,-10,0:0", "0,-10,0:0;0,10,0:0").is("scene(0, 5, 0, 0)", 0).is("lands(0)", 0).is("lands(1)", 1)
                .is("scene(1, 5, 0, 0)", 1).is("stands(0, 1)", 1).is("lands(0)", 1).is("lands(1)", 0).is("cut()", 1)
                .is("lands(0)", 0);
    }

    private static void landsWithoutAShow() {
        run("lands, nobody").refusesAll(NONE, "lands(0)", "lands(-1)").is("flyer(0, 0, 0)", 0).refuses("lands(0)", STATE)
                .refusesAll(NONE, "lands(1)", "lands(-1)").is("figure(0,0,0:0)", 0).is("scene(0, 1, 0, 0)", 0).is("lands(0)", 0)
                .refuses("lands(1)", NONE).is("cut()", 0).refuses("lands(0)", STATE);
    }

    private static void lengthEdges() {
        Run run = solo("length", "0,0,1:0").is("length()", 0).is("scene(0, 1, 0, 0)", 0).is("length()", 2).is("cut()", 0);
        run.is("length()", 0);
        for (int i = 0; i < 12; i++) {
            run.is("scene(0, 30, 100, 0)", i).is("length()", 130 * i + 160);
        }
        run.is("cut()", 11).is("scene(0, 1, 0, 0)", 11).is("length()", 11 * 130 + 2);
        run("length, nobody").is("length()", 0).is("flyer(0, 0, 0)", 0).is("length()", 0);
    }

    private static void leftOfWhom() {
        trio("left").is("left(0)", 500).is("left(2)", 700)
                .refusesAll(NONE_LEFT, "left(-1)", "left(3)", "left(10)", "left(least)", "left(most)")
                .is("scene(0, 5, 0, 0)", 0).is("left(0)", 470).is("left(2)", 670)
                .refusesAll(NONE_LEFT, "left(-1)", "left(3)", "left(least)", "left(most)").is("cut()", 0).is("left(2)", 700);
        run("left, nobody").refusesAll(NONE_LEFT, "left(0)", "left(-1)").is("flyer(0, 0, 77)", 0).is("left(0)", 77);
    }

    /** Upward is above where it comes from: not the same height, not lower; home is never upward. */
    private static void leftUpward() {
        String[] texts = {"0,0,0:0", "0,0,1:0", "0,0,200:0", "5,5,1:0"};
        solo("upward", texts).is("scene(0, 7, 0, 0)", 0).is("left(0)", 5000 - 42).is("cut()", 0).is("scene(1, 7, 0, 0)", 0)
                .is("left(0)", 5000 - 49).is("scene(3, 7, 0, 0)", 1).is("left(0)", 5000 - 70).is("scene(2, 7, 0, 0)", 2)
                .is("left(0)", 5000 - 98).is("scene(1, 7, 0, 0)", 3).is("left(0)", 5000 - 119).is("scene(0, 7, 10, 0)", 4)
                .is("left(0)", 5000 - 160);
        // Flyers 0 and 2 rise at first, flyer 1 in the last scene, from a point that is not of its number.
        Run run = run("upward, each by itself").is("flyer(0, 0, 1000)", 0).is("flyer(50, 0, 1000)", 1).is("flyer(100, 0, 1000)", 2);
        figures(run, "100,0,50:0;50,0,0:0;0,0,50:0", "0,0,50:0;50,0,50:0;100,0,0:0", "50,0,0:0;100,0,50:0;0,0,50:0")
                .is("scene(0, 10, 0, 0)", 0).is("left(0)", 930).is("left(1)", 940).is("left(2)", 930).is("scene(1, 10, 0, 0)", 1)
                .is("stands(0, 1)", 0).is("stands(1, 1)", 2).is("stands(2, 1)", 1).is("left(0)", 900).is("left(1)", 910)
                .is("left(2)", 900).is("scene(2, 10, 0, 0)", 2).is("stands(1, 2)", 1).is("left(0)", 870).is("left(1)", 870)
                .is("left(2)", 870);
        solo("the least upward", texts).is("scene(1, 1, 0, 0)", 0).is("left(0)", 5000 - 7).is("cut()", 0)
                .is("scene(2, 30, 0, 0)", 0).is("left(0)", 5000 - 210);
    }

    private static void leftBelowNought() {
        run("below 0").is("flyer(0, 0, 6)", 0).is("figure(0,0,0:0)", 0).is("scene(0, 1, 0, 0)", 0).is("left(0)", 0)
                .is("cut()", 0).is("scene(0, 1, 1, 0)", 0).is("left(0)", -2);
        Run run = run("far below 0").is("flyer(0, 0, 0)", 0).is("figure(0,0,0:0)", 0).is("figure(0,0,200:0)", 1);
        for (int i = 0; i < 12; i++) {
            run.is("scene(" + (i + 1) % 2 + ", 30, 100, 0)", i);
        }
        run.is("left(0)", -6 * (120 + 90) - 12 * 200 - 90).is("last()", 0);
    }

    private static void leftInAll() {
        run("the most charge").is("flyer(0, 0, 100000)", 0).is("left(0)", 100000).is("figure(0,0,0:0)", 0)
                .is("scene(0, 1, 100, 0)", 0).is("left(0)", 100000 - 3 - 200 - 3);
    }

    private static void lastAtTheMargin() {
        run("last").is("flyer(0, 0, 49)", 0).is("flyer(50, 0, 50)", 1).is("flyer(100, 0, 51)", 2).is("last()", 6)
                .is("margin(51)", 50).is("last()", 4).is("margin(49)", 51).is("last()", 7).is("margin(52)", 49).is("last()", 0)
                .is("margin(0)", 52).is("last()", 7).is("figure(0,0,0:0;50,0,0:0;100,0,0:0)", 0).is("scene(0, 8, 1, 0)", 0)
                .is("left(0)", -1).is("left(1)", 0).is("left(2)", 1).is("last()", 6).is("margin(1)", 0).is("last()", 4)
                .is("margin(2)", 1).is("last()", 0);
        run("the most margin").is("flyer(0, 0, 9999)", 0).is("flyer(0, 0, 10000)", 1).is("margin(10000)", 50).is("last()", 2)
                .is("margin(9999)", 10000).is("last()", 3);
    }

    private static void lastOfNoneAndTen() {
        run("last, nobody").is("last()", 0).is("margin(0)", 50).is("last()", 0);
        ten("last of ten").is("last()", 0).is("margin(0)", 50).is("last()", 1023).is("margin(9)", 0).is("last()", 512)
                .is("margin(1)", 9).is("last()", 1022);
    }

    private static void marginEdges() {
        run("margin").is("margin(0)", 50).is("count(6)", 0).is("margin(10000)", 0).is("count(6)", 10000)
                .refusesAll(BAD, "margin(-1)", "margin(10001)", "margin(least)", "margin(most)").is("count(6)", 10000)
                .is("margin(9999)", 10000).is("margin(1)", 9999).is("margin(1)", 1);
        run("margin at first").refusesAll(BAD, "margin(-1)", "margin(10001)").is("margin(50)", 50);
    }

    private static void colourMoments() {
        solo("colour, moments", "0,0,1:0").is("scene(0, 4, 3, 100)", 0)
                .refusesAll(NONE, "colour(-1)", "colour(12)", "colour(least)", "colour(most)").is("colour(0)", 0).is("colour(11)", 0)
                .is("colour(10)", 25).is("scene(0, 1, 0, 100)", 1).is("length()", 9).is("colour(9)", 0).is("colour(8)", 100)
                .refusesAll(NONE, "colour(10)", "colour(11)").is("cut()", 1).is("colour(11)", 0).refuses("colour(12)", NONE);
    }

    /** A cue is there from the end of its pass on, through the holding, to the begin of the next pass. */
    private static void colourAtCues() {
        solo("colour, cues", "0,0,1:0").is("scene(0, 10, 2, 200)", 0).is("scene(0, 10, 0, 100)", 1).is("scene(0, 10, 1, 255)", 2)
                .is("colour(1)", 20).is("colour(9)", 180).is("colour(10)", 200).is("colour(11)", 200).is("colour(12)", 200)
                .is("colour(13)", 190).is("colour(21)", 110).is("colour(22)", 100).is("colour(23)", 115).is("colour(31)", 239)
                .is("colour(32)", 255).is("colour(33)", 255).is("colour(34)", 230).is("colour(42)", 26).is("colour(43)", 0)
                .refuses("colour(44)", NONE);
        solo("colour, held to the most", "0,0,1:0").is("scene(0, 1, 100, 255)", 0).is("colour(0)", 0).is("colour(1)", 255)
                .is("colour(101)", 255).is("colour(102)", 0).refuses("colour(103)", NONE);
    }

    /** The quotient is cut toward 0, whether the cue rises or falls. */
    private static void colourCut() {
        solo("colour, cut", "0,0,1:0").is("scene(0, 3, 0, 2)", 0).is("colour(1)", 0).is("colour(2)", 1).is("colour(3)", 2)
                .is("colour(4)", 2).is("colour(5)", 1).is("colour(6)", 0);
        solo("colour, falling", "0,0,1:0").is("scene(0, 1, 0, 255)", 0).is("scene(0, 2, 0, 0)", 1).is("colour(1)", 255)
                .is("colour(2)", 128).is("colour(3)", 0).is("colour(4)", 0).is("colour(5)", 0);
        solo("colour, by 1 in 30", "0,0,1:0").is("scene(0, 30, 0, 1)", 0).is("colour(29)", 0).is("colour(30)", 1)
                .is("colour(31)", 1).is("colour(59)", 1).is("colour(60)", 0);
        solo("colour, alike", "0,0,1:0").is("scene(0, 3, 0, 7)", 0).is("scene(0, 3, 0, 7)", 1).is("colour(4)", 7).is("colour(5)", 7);
    }

    private static void colourWithoutAShow() {
        run("colour, no scenes").refusesAll(NONE, "colour(0)", "colour(-1)", "colour(1)").is("flyer(0, 0, 0)", 0)
                .is("figure(0,0,0:0)", 0).refuses("colour(0)", NONE).is("scene(0, 1, 0, 9)", 0).is("colour(0)", 0)
                .is("cut()", 0).refuses("colour(0)", NONE);
    }

    private static void uncleanOfNone() {
        run("unclean, no scenes").is("unclean()", 0).is("flyer(0, 0, 0)", 0).is("flyer(0, 0, 0)", 1).is("zone(0, 0, 200)", 0)
                .is("unclean()", 0).is("figure(0,0,0:0;0,0,0:0)", 0).is("scene(0, 1, 0, 0)", 0).is("unclean()", 1 + HOME)
                .is("cut()", 0).is("unclean()", 0);
    }

    private static void uncleanJustSoFar() {
        Run run = run("unclean, just so far").is("flyer(0, 0, 0)", 0).is("flyer(10, 0, 0)", 1);
        figures(run, "0,0,9:0;10,0,9:0", "0,0,9:0;9,0,9:0", "-50,0,9:0;50,0,9:0").is("scene(0, 5, 0, 0)", 0)
                .is("unclean()", 0).is("scene(1, 5, 0, 0)", 1).is("unclean()", 2 + HOME).is("gap(9)", 10).is("unclean()", 0)
                .is("gap(11)", 9).is("unclean()", 3 + HOME).is("scene(2, 5, 0, 0)", 2).is("gap(10)", 11).is("unclean()", 6)
                .is("gap(0)", 10).is("unclean()", 0);
    }

    private static void uncleanByTheZone() {
        solo("unclean, the zone", "100,0,20:0", "100,100,20:0").is("scene(0, 5, 5, 0)", 0).is("scene(1, 5, 5, 0)", 1)
                .is("zone(50, -10, 10)", 0).is("unclean()", 0).is("zone(50, -10, 11)", 0).is("unclean()", 1)
                .is("zone(110, 50, 10)", 0).is("unclean()", 0).is("zone(110, 50, 11)", 0).is("unclean()", 2)
                .is("zone(50, 50, 1)", 0).is("unclean()", HOME).is("zone(50, 50, 0)", 0).is("unclean()", 0);
    }

    private static void uncleanBits() {
        Run run = solo("unclean, bits", "0,0,1:0", "50,0,1:0").is("zone(50, 0, 1)", 0);
        for (int i = 0; i < 12; i++) {
            run.is("scene(" + (i == 11 ? 1 : 0) + ", 5, 0, 0)", i).is("unclean()", i == 11 ? (1 << 11) + HOME : 0);
        }
        run.is("zone(0, 0, 1)", 0).is("unclean()", 4095 + HOME).is("cut()", 11).is("unclean()", 2047 + HOME);
    }

    private static void uncleanWithoutDelays() {
        // Crossing at one time; the delays of a pass of the same figures do not help the show.
        Run run = run("unclean, delays").is("flyer(-50, 0, 0)", 0).is("flyer(0, -50, 0)", 1).is("flyer(100, 100, 0)", 2);
        figures(run, "50,0,0:0;0,50,0:0;200,200,200:0").is("scene(0, 10, 0, 0)", 0).is("pass(-1, 0, 10)", 60000)
                .is("part()", 2).is("clean()", 1).is("unclean()", 1 + HOME).is("delay(0, 9)", 0).is("delay(1, 9)", 2)
                .is("clean()", 0).is("gap(0)", 10).is("unclean()", 0);
        // Nor do they harm it.
        run = run("unclean, harmful delays").is("flyer(0, 0, 0)", 0).is("flyer(-20, 0, 0)", 1);
        figures(run, "100,0,0:0;80,0,0:0").is("scene(0, 10, 0, 0)", 0).is("pass(-1, 0, 10)", 10000).is("delay(0, 9)", 0)
                .is("clean()", 0).is("unclean()", 0).is("gap(21)", 10).is("unclean()", 1 + HOME);
    }

    private static void failsOfWhom() {
        trio("fails").refusesAll(NONE, "fails(0, 0, 0)", "fails(0, 0, 1)").is("scene(0, 5, 0, 0)", 0).is("fails(0, 0, 0)", 5)
                .is("fails(2, 0, 1)", -2).is("fails(0, 0, 1)", 2)
                .refusesAll(NONE, "fails(-1, 0, 0)", "fails(3, 0, 0)", "fails(least, 0, 0)", "fails(most, 0, 0)")
                .refusesAll(NONE, "fails(0, -1, 0)", "fails(0, 1, 0)", "fails(0, least, 0)", "fails(0, most, 0)")
                .refusesAll(NONE, "fails(0, 0, -1)", "fails(0, 0, 2)", "fails(0, 0, least)", "fails(0, 0, most)")
                .is("scene(1, 5, 0, 0)", 1).is("fails(0, 1, 0)", 1).is("fails(0, 1, 1)", -2).is("fails(1, 1, 1)", 0)
                .is("fails(2, 1, 1)", 0).refuses("fails(0, 2, 0)", NONE);
        run("fails, nobody").refusesAll(NONE, "fails(0, 0, 0)", "fails(0, 0, 1)");
    }

    /** None takes the place if its own worth is the least; of several the flyer with the least number. */
    private static void failsLeast() {
        Run run = run("fails, the least").is("flyer(0, 0, 0)", 0).is("flyer(50, 0, 0)", 1).is("flyer(100, 0, 0)", 2);
        figures(run, "0,0,0:4;50,0,0:4;100,0,0:4", "0,0,0:4;50,0,0:3;100,0,0:3", "0,0,0:0;50,0,0:9;100,0,0:1", "0,0,0:9;50,0,0:9;100,0,0:0");
        int[][] helpers = {{-2, -2, -2}, {1, -2, -2}, {-2, 0, 0}, {2, 2, -2}};
        int[] worths = {4, 3, 0, 0};
        for (int scene = 0; scene < 4; scene++) {
            run.is("scene(" + scene + ", 5, 0, 0)", scene);
            for (int flyer = 0; flyer < 3; flyer++) {
                run.is("fails(" + flyer + ", " + scene + ", 0)", worths[scene]);
                run.is("fails(" + flyer + ", " + scene + ", 1)", helpers[scene][flyer]);
            }
        }
    }

    private static void failsOfOne() {
        solo("fails, one alone", "0,0,0:9", "0,0,0:0").is("scene(0, 5, 0, 0)", 0).is("scene(1, 5, 0, 0)", 1).is("fails(0, 0, 0)", 9)
                .is("fails(0, 0, 1)", -2).is("fails(0, 1, 0)", 0).is("fails(0, 1, 1)", -2);
    }

    /** Flyer i stands at point 9 - i, the worth of which is i. */
    private static void failsOfTen() {
        Run run = ten("fails of ten").is("scene(0, 5, 0, 0)", 0).is("fails(0, 0, 1)", -2).is("fails(0, 0, 0)", 0);
        for (int flyer = 1; flyer < 10; flyer++) {
            run.is("fails(" + flyer + ", 0, 1)", 0).is("fails(" + flyer + ", 0, 0)", 0);
        }
    }

    private static void cutEdges() {
        run("cut, nothing").refuses("cut()", STATE).is("flyer(0, 0, 0)", 0).refuses("cut()", STATE);
        solo("cut", "0,0,0:0").refuses("cut()", STATE).is("scene(0, 1, 0, 0)", 0).is("cut()", 0).refuses("cut()", STATE)
                .is("count(2)", 0).is("length()", 0);
        Run run = twelve("cut all");
        for (int i = 11; i >= 0; i--) {
            run.is("cut()", i).is("count(2)", i);
        }
        run.refuses("cut()", STATE);
    }

    /** What goes home is the last scene that is left. */
    private static void cutLeavesTheOthers() {
        trio("cut, what is left").is("scene(0, 5, 1, 10)", 0).is("scene(1, 6, 2, 20)", 1).is("left(0)", 500 - 15 - 2 - 24 - 4 - 18)
                .is("cut()", 1).is("left(0)", 500 - 15 - 2 - 15).is("length()", 11).is("colour(6)", 10).is("colour(11)", 0)
                .is("lands(2)", 2).is("scene(0, 7, 0, 30)", 1).is("stands(0, 1)", 1).is("stands(2, 1)", 0).is("length()", 20)
                .is("colour(13)", 30);
    }

    private static void cutLeavesTheRest() {
        solo("cut, the rest", "0,0,9:0").is("gap(7)", 10).is("margin(7)", 50).is("zone(7, 7, 7)", 0).is("tape(7)", 1)
                .is("mark(7, 7, 7, 7, 7)", 1).is("pass(0, -1, 7)", 81).is("delay(0, 7)", 0).is("scene(0, 7, 7, 7)", 0)
                .is("first()", 7).is("cut()", 0).is("count(0)", 1).is("count(1)", 1).is("count(3)", 1).is("count(4)", 1)
                .is("count(5)", 7).is("count(6)", 7).is("who(0)", 7).is("first()", 7).is("delay(0, 7)", 7).is("left(0)", 5000);
    }
}
