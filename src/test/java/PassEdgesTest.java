/** The boundaries that the Terms 2 and 5 and the promises 9 to 15 name, each from either side. */
public final class PassEdgesTest {
    private static final Due due = new Due("PassEdgesTest");
    private static final int NONE = SkyLights.NONE;
    private static final int BAD = SkyLights.BAD;
    private static final int STATE = SkyLights.STATE;
    /**
     * A last point whose way is the greatest, and that nobody else goes to: so the others, who are all
     * near 0, 0, go to the least goals, each to its own.
     */
    private static final String FAR = ";100,100,0:0";
    private static final String FAR_OFF = ";200,200,200:0";
    private static final int FAR_WAY = 60000;

    public static void main(String[] args) {
        passFrom();
        passTo();
        passTicks();
        passOfAsMany();
        passOfNone();
        passFirstRefusal();
        passRefusedLeavesTheLatest();
        passOfOneAndTen();
        passWays();
        passOfSeveral();
        passWithoutWorth();
        goesEdges();
        delayOfWhom();
        delayNumber();
        delayOfANewPass();
        delayFirstRefusal();
        clashOfWhom();
        clashJustSoFar();
        clashByAHair();
        clashAtTheBegin();
        clashAtTheEnd();
        clashAheadAndBehind();
        clashBetweenTicks();
        clashAsOneSetsOutOrEnds();
        clashGaps();
        clashOfTheLastOfTen();
        entersOfWhom();
        entersJustSoFar();
        entersAtAnyHeight();
        cleanEdges();
        cleanByTheLast();
        cleanWithBothLate();
        partWithoutNeed();
        partOfThree();
        partSets();
        partOfTheFirstSix();
        partOfTheNinthNot();
        partStays();
        partOfFewerThen();
        due.end();
    }

    private static Run run(String name) {
        return new Run(due, name);
    }

    private static Run figures(String name, String... texts) {
        Run run = run(name);
        for (int i = 0; i < texts.length; i++) {
            run.is("figure(" + texts[i] + ")", i);
        }
        return run;
    }

    /** A pass in which each point goes to the goal of its number, and the last one far off. */
    private static Run led(String name, int ticks, String from, String to) {
        Run run = figures(name, from + FAR, to + FAR_OFF).is("pass(0, 1, " + ticks + ")", FAR_WAY);
        for (int i = 0; i < from.split(";").length; i++) {
            run.is("goes(" + i + ")", i);
        }
        return run;
    }

    private static void passFrom() {
        figures("pass, from", "0,0,0:0", "3,4,0:0").is("flyer(0, 0, 0)", 0).is("pass(-1, 1, 1)", 25).is("pass(0, 1, 1)", 25)
                .is("pass(1, 1, 1)", 0)
                .refusesAll(NONE, "pass(-2, 1, 1)", "pass(2, 1, 1)", "pass(8, 1, 1)", "pass(least, 1, 1)", "pass(most, 1, 1)");
    }

    private static void passTo() {
        figures("pass, to", "0,0,0:0", "3,4,0:0").is("flyer(6, 8, 0)", 0).is("pass(1, -1, 1)", 25).is("pass(1, 0, 1)", 25)
                .is("pass(0, 1, 1)", 25).is("pass(-1, -1, 1)", 0)
                .refusesAll(NONE, "pass(1, -2, 1)", "pass(1, 2, 1)", "pass(1, 8, 1)", "pass(1, least, 1)", "pass(1, most, 1)");
        run("pass to the eighth figure").is("figure(0,0,0:0)", 0).is("figure(1,0,0:0)", 1).is("figure(2,0,0:0)", 2)
                .is("figure(3,0,0:0)", 3).is("figure(4,0,0:0)", 4).is("figure(5,0,0:0)", 5).is("figure(6,0,0:0)", 6)
                .refusesAll(NONE, "pass(0, 7, 1)", "pass(7, 0, 1)").is("figure(7,0,0:0)", 7).is("pass(0, 7, 1)", 49)
                .is("pass(7, 6, 1)", 1).refusesAll(NONE, "pass(0, 8, 1)", "pass(8, 0, 1)");
    }

    private static void passTicks() {
        figures("pass, ticks", "0,0,0:0", "3,4,0:0").is("pass(0, 1, 1)", 25).is("pass(0, 1, 30)", 25).is("delay(0, 4)", 0)
                .refusesAll(BAD, "pass(0, 1, 0)", "pass(0, 1, 31)", "pass(0, 1, -1)", "pass(0, 1, least)", "pass(0, 1, most)")
                .is("delay(0, 4)", 4);
    }

    private static void passOfAsMany() {
        figures("pass, as many", "0,0,0:0", "0,0,0:0;50,0,0:0", "0,9,0:0;50,0,0:0", "0,0,0:0;50,0,0:0;90,0,0:0")
                .is("flyer(0, 0, 0)", 0).is("flyer(50, 0, 0)", 1).is("pass(1, 2, 5)", 81).is("pass(-1, 2, 5)", 81)
                .is("pass(2, -1, 5)", 81).is("pass(-1, -1, 5)", 0)
                .refusesAll(STATE, "pass(1, 0, 5)", "pass(1, 3, 5)", "pass(0, 1, 5)", "pass(3, 1, 5)")
                .refusesAll(STATE, "pass(-1, 0, 5)", "pass(-1, 3, 5)", "pass(0, -1, 5)", "pass(3, -1, 5)")
                .is("flyer(90, 0, 0)", 2).refusesAll(STATE, "pass(-1, 2, 5)", "pass(2, -1, 5)").is("pass(-1, 3, 5)", 0);
    }

    private static void passOfNone() {
        figures("pass, no flyers", "0,0,0:0").refusesAll(STATE, "pass(-1, -1, 1)", "pass(-1, 0, 1)", "pass(0, -1, 30)")
                .is("pass(0, 0, 1)", 0).refusesAll(STATE, "pass(-1, -1, 1)", "pass(-1, 0, 1)").is("goes(0)", 0);
        run("pass, nothing").refuses("pass(-1, -1, 1)", STATE).refusesAll(NONE, "pass(0, 0, 1)", "pass(-1, 0, 1)")
                .is("flyer(0, 0, 0)", 0).is("pass(-1, -1, 1)", 0);
    }

    private static void passFirstRefusal() {
        figures("pass, the first refusal", "0,0,0:0", "0,0,0:0;50,0,0:0")
                .refusesAll(NONE, "pass(-2, 0, 0)", "pass(2, 0, 31)", "pass(0, -2, 0)", "pass(0, 2, 31)", "pass(2, 2, least)")
                .refusesAll(BAD, "pass(0, 1, 0)", "pass(0, 1, 31)", "pass(-1, -1, 0)", "pass(-1, 0, 31)")
                .refusesAll(STATE, "pass(0, 1, 1)", "pass(-1, -1, 30)").refuses("clean()", STATE);
    }

    private static void passRefusedLeavesTheLatest() {
        led("the latest pass", 10, "0,0,0:0;30,0,0:0", "0,0,0:0;20,0,0:0").is("delay(0, 7)", 0).is("delay(1, 9)", 0)
                .is("gap(21)", 10).is("clash(0, 1)", 1)
                .refuses("pass(2, 0, 5)", NONE).refuses("pass(1, 0, 31)", BAD).refuses("pass(1, -1, 5)", STATE)
                .is("goes(2)", 2).is("delay(0, 7)", 7).is("delay(1, 9)", 9).is("clash(0, 1)", 1)
                .is("pass(0, 0, 5)", 0).is("delay(0, 0)", 0).is("delay(1, 0)", 0).is("clash(0, 1)", 0);
    }

    private static void passOfOneAndTen() {
        figures("a pass of one", "0,0,0:0", "200,0,0:0").is("pass(0, 1, 1)", 40000).is("goes(0)", 0).refuses("goes(1)", NONE)
                .is("clean()", 1).is("part()", 0).refuses("clash(0, 0)", BAD).refuses("clash(0, 1)", NONE);
        StringBuilder from = new StringBuilder();
        StringBuilder to = new StringBuilder();
        for (int i = 0; i < 10; i++) {
            from.append(i > 0 ? ";" : "").append(i * 40 - 180).append(",0,0:0");
            to.append(i > 0 ? ";" : "").append(180 - i * 40).append(",5,0:0");
        }
        Run run = figures("a pass of ten", from.toString(), to.toString()).is("pass(0, 1, 9)", 25);
        for (int i = 0; i < 10; i++) {
            run.is("goes(" + i + ")", 9 - i);
        }
        run.refuses("goes(10)", NONE).is("clean()", 1).is("part()", 0).is("delay(9, 9)", 0).is("delay(9, 0)", 9);
    }

    private static void passWays() {
        figures("the ways", "-200,-200,0:0", "200,200,200:0", "-200,-200,1:0").is("pass(0, 0, 1)", 0).is("pass(0, 2, 1)", 1)
                .is("pass(0, 1, 1)", 360000).is("pass(1, 0, 30)", 360000);
        // 100 is less than 101: crosswise. And 100 is not less than 100: the least goals.
        figures("the least greatest way", "0,0,0:0;1,0,0:0", "1,10,0:0;10,0,0:0").is("pass(0, 1, 1)", 100).is("goes(0)", 1)
                .is("goes(1)", 0);
        figures("alike", "0,0,0:0;0,0,0:0", "0,10,0:0;10,0,0:0").is("pass(0, 1, 1)", 100).is("goes(0)", 0).is("goes(1)", 1);
    }

    /** Where the greatest way leaves a choice, point 0 has the least goal that it can have, then point 1. */
    private static void passOfSeveral() {
        figures("point 0 first", "0,0,0:0;0,10,0:0;0,20,0:0", "0,10,0:0;0,0,0:0;0,30,0:0").is("pass(0, 1, 1)", 100)
                .is("goes(0)", 0).is("goes(1)", 1).is("goes(2)", 2);
        figures("point 0 has what it must", "0,0,0:0;0,10,0:0;0,20,0:0", "0,30,0:0;0,20,0:0;0,10,0:0").is("pass(0, 1, 1)", 100)
                .is("goes(0)", 2).is("goes(1)", 1).is("goes(2)", 0);
        figures("point 1 then", "0,0,0:0;0,10,0:0;0,20,0:0", "0,0,0:0;0,30,0:0;0,10,0:0").is("pass(0, 1, 1)", 100)
                .is("goes(0)", 0).is("goes(1)", 2).is("goes(2)", 1);
    }

    /** What a point is worth changes neither its ways nor its delays. */
    private static void passWithoutWorth() {
        figures("worth", "0,0,0:9;50,0,0:8;100,0,0:7;100,9,0:0", "0,3,0:0;50,3,0:9;100,3,0:0;100,6,0:9").is("pass(0, 1, 5)", 9)
                .is("spread(0)", 81).is("point(0, -1, 1)", 0).is("delay(0, 0)", 0).is("delay(1, 0)", 0).is("delay(2, 0)", 0)
                .is("delay(3, 0)", 0).is("goes(3)", 3).is("gap(9)", 10).is("point(0, -1, 1)", 1).is("spread(1)", 9);
    }

    private static void goesEdges() {
        run("goes without a pass").refusesAll(NONE, "goes(0)", "goes(-1)", "goes(most)");
        figures("goes", "0,0,0:0;50,0,0:0;90,0,0:0", "90,1,0:0;0,2,0:0;50,3,0:0").is("pass(0, 1, 5)", 9).is("goes(0)", 1)
                .is("goes(1)", 2).is("goes(2)", 0)
                .refusesAll(NONE, "goes(-1)", "goes(3)", "goes(9)", "goes(10)", "goes(least)", "goes(most)")
                .is("figure(0,0,0:0)", 2).is("pass(2, 2, 1)", 0).is("goes(0)", 0).refusesAll(NONE, "goes(1)", "goes(2)");
    }

    private static void delayOfWhom() {
        run("delay without a pass").refusesAll(NONE, "delay(0, 0)", "delay(-1, 0)", "delay(0, 10)");
        figures("delay, i", "0,0,0:0;50,0,0:0").is("pass(0, 0, 5)", 0).is("delay(0, 3)", 0).is("delay(1, 4)", 0)
                .refusesAll(NONE, "delay(-1, 0)", "delay(2, 0)", "delay(9, 0)", "delay(10, 0)", "delay(least, 0)", "delay(most, 0)")
                .is("delay(0, 0)", 3).is("delay(1, 0)", 4);
    }

    private static void delayNumber() {
        figures("delay, n", "0,0,0:0;50,0,0:0").is("pass(0, 0, 5)", 0).is("delay(0, 9)", 0).is("delay(0, 0)", 9)
                .is("delay(0, 1)", 0).is("delay(0, 8)", 1)
                .refusesAll(BAD, "delay(0, -1)", "delay(0, 10)", "delay(0, least)", "delay(0, most)", "delay(1, 10)")
                .is("delay(0, 8)", 8).is("delay(1, 0)", 0);
    }

    private static void delayOfANewPass() {
        figures("delays of a new pass", "0,0,0:0;50,0,0:0").is("pass(0, 0, 5)", 0).is("delay(0, 9)", 0).is("delay(1, 2)", 0)
                .is("pass(0, 0, 5)", 0).is("delay(0, 5)", 0).is("delay(1, 5)", 0).is("delay(0, 6)", 5).is("delay(1, 6)", 5);
    }

    private static void delayFirstRefusal() {
        figures("delay, the first refusal", "0,0,0:0").is("pass(0, 0, 5)", 0)
                .refusesAll(NONE, "delay(1, 10)", "delay(-1, -1)", "delay(most, most)", "delay(least, least)")
                .refuses("delay(0, 10)", BAD);
    }

    private static void clashOfWhom() {
        run("clash without a pass").refusesAll(NONE, "clash(0, 0)", "clash(0, 1)", "clash(-1, -1)");
        figures("clash, of whom", "0,0,0:0;50,0,0:0;53,0,0:0").is("pass(0, 0, 5)", 0).is("clash(1, 2)", 1).is("clash(2, 1)", 1)
                .is("clash(0, 2)", 0).is("clash(2, 0)", 0)
                .refusesAll(NONE, "clash(-1, 0)", "clash(3, 0)", "clash(least, 0)", "clash(most, 0)", "clash(10, 0)")
                .refusesAll(NONE, "clash(0, -1)", "clash(0, 3)", "clash(0, least)", "clash(0, most)", "clash(0, 10)")
                .refusesAll(NONE, "clash(3, 3)", "clash(-1, -1)", "clash(most, most)", "clash(least, least)")
                .refusesAll(BAD, "clash(0, 0)", "clash(1, 1)", "clash(2, 2)");
    }

    private static void clashJustSoFar() {
        for (int ticks : new int[] {1, 7, 30}) {
            led("just so far in " + ticks, ticks, "0,0,0:0;-30,10,0:0", "0,0,0:0;30,10,0:0").is("clash(0, 1)", 0)
                    .is("clash(1, 0)", 0).is("clean()", 1).is("gap(11)", 10).is("clash(0, 1)", 1).is("clash(1, 0)", 1)
                    .is("clean()", 0).is("gap(9)", 11).is("clash(0, 1)", 0);
            // By 3, 4, 0 and 0, 0, 12: the nearest is 13, at no whole tick.
            led("just 13 in " + ticks, ticks, "0,0,0:0;-1,7,12:0", "0,0,0:0;11,-2,12:0").is("gap(13)", 10).is("clash(0, 1)", 0)
                    .is("gap(14)", 13).is("clash(1, 0)", 1);
        }
    }

    private static void clashByAHair() {
        // Just 5 at the begin and at the end, and a hair nearer between.
        led("just 5 at both ends", 1, "0,0,0:0;3,4,0:0", "0,0,0:0;4,3,0:0").is("gap(5)", 10).is("clash(0, 1)", 1)
                .is("zone(0, 0, 5)", 0).is("gap(0)", 5).is("enters(1)", 1).is("clash(0, 1)", 0);
        led("just 5 at the begin, going on", 1, "0,0,0:0;4,3,0:0", "0,0,0:0;4,4,0:0").is("gap(5)", 10).is("clash(0, 1)", 0);
        // 200 / root of 40004 is a hair less than 1, 202 / root of 40004 a hair more.
        led("a hair less", 30, "-50,-50,0:0;-150,-48,0:0", "-50,-50,0:0;50,-50,0:0").is("gap(1)", 10).is("clash(0, 1)", 1);
        led("a hair more", 30, "-50,-50,0:0;-149,-48,0:0", "-50,-50,0:0;51,-50,0:0").is("gap(1)", 10).is("clash(0, 1)", 0)
                .is("gap(2)", 1).is("clash(0, 1)", 1);
        led("just 1", 30, "-50,-50,0:0;-150,-49,0:0", "-50,-50,0:0;50,-49,0:0").is("gap(1)", 10).is("clash(0, 1)", 0);
        led("at one place for a moment", 29, "-50,-50,0:0;-150,-47,0:0", "-50,-50,0:0;50,-53,0:0").is("gap(1)", 10)
                .is("clash(0, 1)", 1).is("gap(0)", 1).is("clash(0, 1)", 0);
    }

    private static void clashAtTheBegin() {
        String[][] delays = {{"0", "0"}, {"9", "9"}, {"0", "9"}, {"9", "0"}, {"3", "5"}};
        for (String[] both : delays) {
            led("near at the begin " + both[0] + both[1], 4, "0,0,0:0;10,0,0:0", "-40,0,0:0;50,0,0:0")
                    .is("delay(0, " + both[0] + ")", 0).is("delay(1, " + both[1] + ")", 0).is("clash(0, 1)", 0)
                    .is("gap(11)", 10).is("clash(0, 1)", 1).is("clean()", 0);
        }
    }

    private static void clashAtTheEnd() {
        String[][] delays = {{"0", "0"}, {"9", "9"}, {"0", "9"}, {"9", "0"}, {"3", "5"}};
        for (String[] both : delays) {
            led("near at the end " + both[0] + both[1], 4, "-40,0,0:0;50,0,0:0", "0,0,0:0;10,0,0:0")
                    .is("delay(0, " + both[0] + ")", 0).is("delay(1, " + both[1] + ")", 0).is("clash(0, 1)", 0)
                    .is("gap(11)", 10).is("clash(0, 1)", 1).is("clean()", 0);
        }
    }

    /** One that has not set out, or that is there, stands: the other one comes by. */
    private static void clashAheadAndBehind() {
        for (String late : new String[] {"1", "9"}) {
            // Point 0 goes to 40, 0; point 1 by 40, 0 on.
            led("behind its end " + late, 1, "0,0,0:0;40,30,0:0", "40,0,0:0;40,-30,0:0").is("gap(16)", 10)
                    .is("clash(0, 1)", 0).is("gap(17)", 16).is("clash(0, 1)", 1).is("gap(1)", 17).is("delay(1, " + late + ")", 0)
                    .is("clash(0, 1)", 1).is("delay(1, 0)", Integer.parseInt(late)).is("delay(0, " + late + ")", 0)
                    .is("gap(30)", 1).is("clash(0, 1)", 0).is("gap(31)", 30).is("clash(0, 1)", 1);
            // Point 0 leaves 0, 0, by which point 1 goes: if it leaves late, they are at one place.
            led("ahead of its begin " + late, 1, "0,0,0:0;0,40,0:0", "50,0,0:0;0,-40,0:0").is("gap(1)", 10)
                    .is("clash(0, 1)", 0).is("delay(0, " + late + ")", 0).is("clash(0, 1)", 1)
                    .is("delay(1, " + late + ")", 0).is("clash(0, 1)", 0);
        }
    }

    private static void clashBetweenTicks() {
        // They are at one place in the middle of the only tick, and far off at its ends.
        led("in the middle of a tick", 1, "-50,0,0:0;50,0,0:0", "50,0,0:0;-50,0,0:0").is("gap(1)", 10).is("clash(0, 1)", 1)
                .is("delay(0, 9)", 0).is("clash(0, 1)", 1);
        // 40 a tick: the one passes the place of the other in the midst of a tick that is not the first.
        led("in a later tick", 3, "0,0,0:0;-60,9,0:0", "0,0,0:0;60,9,0:0").is("clash(0, 1)", 1).is("gap(9)", 10)
                .is("clash(0, 1)", 0).is("delay(1, 2)", 0).is("clash(0, 1)", 0).is("gap(10)", 9).is("clash(0, 1)", 1);
    }

    /** They are nearest just as one of them comes to its end, or sets out: the way of the one to the other bends there. */
    private static void clashAsOneSetsOutOrEnds() {
        for (int late = 1; late <= 5; late += 2) {
            int ticks = 2 * late;
            // Point 0 comes to 40, 0, as point 1, which is late, is half way, at 49, 0.
            led("as point 0 ends, " + late, ticks, "0,0,0:0;49,-60,0:0", "40,0,0:0;49,60,0:0").is("delay(1, " + late + ")", 0)
                    .is("clash(0, 1)", 1).is("clash(1, 0)", 1).is("gap(9)", 10).is("clash(0, 1)", 0).is("clash(1, 0)", 0);
            led("as point 1 ends, " + late, ticks, "49,-60,0:0;0,0,0:0", "49,60,0:0;40,0,0:0").is("delay(0, " + late + ")", 0)
                    .is("clash(0, 1)", 1).is("gap(9)", 10).is("clash(0, 1)", 0);
            // Point 0, which is late, leaves 0, 0, as point 1 is half way, at -9, 0.
            led("as point 0 sets out, " + late, ticks, "0,0,0:0;-9,-60,0:0", "40,0,0:0;-9,60,0:0").is("delay(0, " + late + ")", 0)
                    .is("clash(0, 1)", 1).is("clash(1, 0)", 1).is("gap(9)", 10).is("clash(0, 1)", 0).is("clash(1, 0)", 0);
            led("as point 1 sets out, " + late, ticks, "-9,-60,0:0;0,0,0:0", "-9,60,0:0;40,0,0:0").is("delay(1, " + late + ")", 0)
                    .is("clash(0, 1)", 1).is("gap(9)", 10).is("clash(0, 1)", 0);
        }
    }

    private static void clashGaps() {
        led("gap 0", 5, "0,0,0:0;0,0,0:0", "9,9,9:0;9,9,9:0").is("gap(0)", 10).is("clash(0, 1)", 0).is("clean()", 1)
                .is("gap(1)", 0).is("clash(0, 1)", 1).is("clean()", 0);
        figures("gap 100", "0,0,0:0;100,0,0:0", "0,0,0:0;99,14,1:0").is("gap(100)", 10).is("pass(0, 0, 5)", 0)
                .is("clash(0, 1)", 0).is("pass(1, 1, 5)", 0).is("clash(0, 1)", 1);
        // The greatest numbers there are: 400 across and 200 up in 30 ticks.
        figures("greatest numbers", "-200,-200,0:0;-200,-200,100:0", "200,200,100:0;200,200,200:0").is("pass(0, 1, 30)", 330000)
                .is("goes(0)", 0).is("goes(1)", 1).is("gap(100)", 10).is("clash(0, 1)", 0).is("delay(0, 1)", 0)
                .is("clash(0, 1)", 0).is("delay(1, 2)", 0).is("clash(0, 1)", 1);
    }

    private static void clashOfTheLastOfTen() {
        StringBuilder text = new StringBuilder();
        for (int i = 0; i < 9; i++) {
            text.append(i * 40 - 180).append(",0,0:0;");
        }
        Run run = figures("the last two of ten", text + "149,0,0:0").is("pass(0, 0, 3)", 0).is("clash(8, 9)", 1);
        run.is("clash(9, 8)", 1).is("clash(0, 9)", 0).is("clean()", 0).is("gap(9)", 10).is("clash(8, 9)", 0).is("clean()", 1);
        run.refusesAll(NONE, "clash(9, 10)", "clash(10, 9)");
    }

    private static void entersOfWhom() {
        run("enters without a pass").refusesAll(NONE, "enters(0)", "enters(-1)");
        figures("enters, of whom", "0,0,0:0;50,0,0:0").is("zone(50, 9, 10)", 0).is("pass(0, 0, 5)", 0).is("enters(0)", 0)
                .is("enters(1)", 1).refusesAll(NONE, "enters(-1)", "enters(2)", "enters(10)", "enters(least)", "enters(most)");
    }

    private static void entersJustSoFar() {
        led("by the zone", 7, "-30,10,0:0", "30,10,0:0").is("zone(0, 0, 10)", 0).is("enters(0)", 0).is("clean()", 1)
                .is("zone(0, 0, 11)", 0).is("enters(0)", 1).is("clean()", 0).is("zone(0, 20, 10)", 0).is("enters(0)", 0)
                .is("zone(0, 20, 11)", 0).is("enters(0)", 1).is("zone(0, 20, 0)", 0).is("enters(0)", 0);
        led("begin and end", 7, "-30,10,0:0", "30,10,0:0").is("zone(-33, 14, 5)", 0).is("enters(0)", 0)
                .is("zone(-33, 14, 6)", 0).is("enters(0)", 1).is("zone(33, 6, 5)", 0).is("enters(0)", 0)
                .is("zone(33, 6, 6)", 0).is("enters(0)", 1).is("delay(0, 9)", 0).is("enters(0)", 1);
        led("just 5 on a slant, at no whole tick", 7, "-1,7,0:0", "11,-2,0:0").is("zone(0, 0, 5)", 0).is("enters(0)", 0)
                .is("zone(0, 0, 6)", 0).is("enters(0)", 1);
        led("by a hair", 30, "-150,-48,0:0;-149,-48,0:0", "50,-50,0:0;51,-50,0:0").is("gap(0)", 10).is("zone(-50, -50, 1)", 0)
                .is("enters(0)", 1).is("enters(1)", 0);
    }

    private static void entersAtAnyHeight() {
        led("at any height", 3, "-30,0,0:0;-30,20,50:0", "30,0,50:0;30,20,0:0").is("zone(0, 9, 9)", 0).is("enters(0)", 0)
                .is("enters(1)", 0).is("zone(0, 9, 10)", 0).is("enters(0)", 1).is("enters(1)", 0).is("zone(0, 9, 12)", 0)
                .is("enters(1)", 1);
        figures("straight up", "0,0,0:0", "0,0,200:0").is("pass(0, 1, 3)", 40000).is("zone(3, 4, 5)", 0).is("enters(0)", 0)
                .is("zone(3, 4, 6)", 0).is("enters(0)", 1).is("zone(0, 0, 1)", 0).is("enters(0)", 1);
    }

    private static void cleanEdges() {
        run("clean without a pass").refuses("clean()", STATE).is("flyer(0, 0, 0)", 0).refuses("clean()", STATE)
                .is("figure(0,0,0:0)", 0).is("scene(0, 1, 1, 1)", 0).refuses("clean()", STATE).is("pass(0, 0, 1)", 0)
                .is("clean()", 1);
        figures("clean", "0,0,0:0;10,0,0:0").is("pass(0, 0, 5)", 0).is("clean()", 1).is("gap(11)", 10).is("clean()", 0)
                .is("gap(10)", 11).is("zone(20, 0, 10)", 0).is("clean()", 1).is("zone(20, 0, 11)", 0).is("clean()", 0);
    }

    private static void cleanByTheLast() {
        figures("the last enters", "0,0,0:0;50,0,0:0;100,0,0:0").is("pass(0, 0, 5)", 0).is("zone(100, 0, 1)", 0).is("clean()", 0)
                .is("zone(0, 0, 1)", 0).is("clean()", 0).is("zone(25, 0, 25)", 0).is("clean()", 1);
        figures("the first and the last clash", "0,0,0:0;50,0,0:0;9,0,0:0").is("pass(0, 0, 5)", 0).is("clean()", 0)
                .is("gap(9)", 10).is("clean()", 1);
    }

    /** Two in a row, 20 apart, 10 a tick: it is how much later the one sets out than the other that counts. */
    private static void cleanWithBothLate() {
        figures("both are late", "0,0,0:0;-20,0,0:0", "100,0,0:0;80,0,0:0").is("pass(0, 1, 10)", 10000).is("goes(0)", 0)
                .is("delay(0, 9)", 0).is("clean()", 0).is("delay(1, 9)", 0).is("clean()", 1).is("delay(0, 8)", 9).is("clean()", 1)
                .is("delay(1, 7)", 9).is("clean()", 1).is("delay(1, 6)", 7).is("clean()", 0);
    }

    /** Two cross in the middle, 10 a tick: so many ticks of delay are 7.07 each at the least. */
    private static Run crossing(String name) {
        return led(name, 10, "-50,0,0:0;0,-50,0:0", "50,0,0:0;0,50,0:0");
    }

    private static void partWithoutNeed() {
        run("part without a pass").refuses("part()", STATE).is("flyer(0, 0, 0)", 0).refuses("part()", STATE);
        // A clean pass needs none: those that stand go.
        figures("no need", "0,0,0:0;50,0,0:0").is("pass(0, 0, 5)", 0).is("delay(0, 9)", 0).is("delay(1, 3)", 0).is("part()", 0)
                .is("delay(0, 1)", 0).is("delay(1, 1)", 0).is("part()", 0).is("delay(0, 0)", 0);
        crossing("gap 0").is("gap(0)", 10).is("delay(1, 5)", 0).is("part()", 0).is("delay(1, 0)", 0);
    }

    private static void partOfThree() {
        int[] sums = {1, 2, 3};
        int[] gaps = {7, 14, 21};
        for (int i = 0; i < sums.length; i++) {
            crossing("part of " + sums[i]).is("gap(" + gaps[i] + ")", 10).is("clean()", 0).is("part()", sums[i]).is("clean()", 1)
                    .is("delay(0, 0)", 0).is("delay(1, 0)", sums[i]).is("gap(" + (gaps[i] + 1) + ")", gaps[i]);
        }
        crossing("part needs 4").is("gap(22)", 10).is("delay(1, 4)", 0).is("clean()", 1).is("delay(0, 2)", 0)
                .refuses("part()", STATE).is("delay(0, 2)", 2).is("delay(1, 4)", 4);
    }

    private static void partSets() {
        crossing("the first has the least").is("delay(0, 9)", 0).is("delay(2, 9)", 0).is("part()", 2).is("delay(0, 0)", 0)
                .is("delay(1, 0)", 2).is("delay(2, 0)", 0);
        // Points 0 and 1 go in a row, 10 apart; point 2 can only go behind them both.
        led("one waits for two", 10, "-50,0,0:0;-40,0,0:0;0,-50,0:0", "40,0,0:0;50,0,0:0;0,50,0:0").is("gap(7)", 10).is("clean()", 0)
                .is("part()", 2).is("delay(0, 0)", 0).is("delay(1, 0)", 0).is("delay(2, 0)", 2).is("clean()", 0);
    }

    /** Six stand far from all others, or cross: the sixth is the last one that can wait. */
    private static void partOfTheFirstSix() {
        String four = "-200,-100,0:0;-200,-70,0:0;-200,-40,0:0;-200,-10,0:0;";
        String five = four + "-200,20,0:0;";
        String six = five + "-200,50,0:0;";
        led("points 4 and 5", 10, four + "-50,0,0:0;0,-50,0:0", four + "50,0,0:0;0,50,0:0").is("part()", 2)
                .is("delay(4, 0)", 0).is("delay(5, 0)", 2).is("clean()", 0);
        led("points 5 and 6", 10, five + "-50,0,0:0;0,-50,0:0", five + "50,0,0:0;0,50,0:0").is("delay(6, 8)", 0)
                .is("part()", 2).is("clean()", 1).is("delay(5, 0)", 2).is("delay(6, 0)", 0);
        led("points 6 and 7", 10, six + "-50,0,0:0;0,-50,0:0", six + "50,0,0:0;0,50,0:0").is("delay(6, 2)", 0)
                .is("delay(0, 1)", 0).is("clean()", 1).refuses("part()", STATE).is("delay(6, 2)", 2).is("delay(0, 0)", 1);
    }

    private static void partOfTheNinthNot() {
        // Points 0 to 2 cross points 6 to 8, at three heights: the first ones alone can wait.
        String stand = ";-200,-100,0:0;-200,-70,0:0;-200,-40,0:0";
        String from = "-50,0,0:0;-50,0,25:0;-50,0,50:0" + stand + ";0,-50,0:0;0,-50,25:0;0,-50,50:0";
        String to = "50,0,0:0;50,0,25:0;50,0,50:0" + stand + ";0,50,0:0;0,50,25:0;0,50,50:0";
        led("three of nine", 10, from, to).is("gap(21)", 10).is("delay(7, 9)", 0).is("part()", 9).is("clean()", 1)
                .is("delay(0, 0)", 3).is("delay(1, 0)", 3).is("delay(2, 0)", 3).is("delay(3, 0)", 0).is("delay(6, 0)", 0)
                .is("delay(7, 0)", 0).is("gap(22)", 21).refuses("part()", STATE);
    }

    private static void partStays() {
        crossing("the zone").is("delay(0, 5)", 0).is("delay(2, 6)", 0).is("zone(50, 5, 5)", 0).is("clean()", 1).is("part()", 2)
                .is("delay(0, 5)", 0).is("zone(50, 5, 6)", 0).is("clean()", 0).refuses("part()", STATE).is("delay(0, 5)", 5)
                .is("delay(1, 1)", 2).is("zone(0, 0, 0)", 0).is("part()", 2);
        figures("near at the begin", "0,0,0:0;9,0,0:0", "0,0,0:0;50,0,0:0").is("pass(0, 1, 5)", 1681).is("delay(1, 9)", 0)
                .refuses("part()", STATE).is("delay(1, 9)", 9).is("gap(9)", 10).is("part()", 0).is("delay(1, 0)", 0);
    }

    /** What was found out for a pass of more points is not held against one of fewer. */
    private static void partOfFewerThen() {
        String one = "5,5,5:0";
        StringBuilder apart = new StringBuilder("-180,0,0:0");
        for (int many = 1; many <= 7; many++) {
            figures("part of " + many + " behind part of eight", one + (";" + one).repeat(7), apart.toString())
                    .is("pass(0, 0, 5)", 0).refuses("part()", STATE).is("pass(1, 1, 5)", 0).is("delay(0, 5)", 0).is("part()", 0)
                    .is("delay(0, 0)", 0);
            apart.append(';').append(many * 40 - 180).append(",0,0:0");
        }
    }
}
