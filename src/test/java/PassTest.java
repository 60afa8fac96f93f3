/** Promises 9 to 15: a pass, its clashes, its delays. */
public final class PassTest {
    private static final Due due = new Due("PassTest");
    private static final int LEAST = Integer.MIN_VALUE;
    private static final int MOST = Integer.MAX_VALUE;
    /**
     * A last point that goes so far, to where nobody else is nearer, that all ways of the others are
     * short beside its own: so each of them goes to the least goal, its own.
     */
    private static final String FAR = ";200,-90,200:0";
    private static final String FAR_OFF = ";200,200,200:0";

    public static void main(String[] args) {
        leastGreatestWay();
        leastGoals();
        padsAndFigures();
        passesAreRefused();
        theLatestPassStays();
        delays();
        clashes();
        clashesInFollowing();
        clashesAtTheEnds();
        clashIsRefused();
        exactTouch();
        theZone();
        cleanPasses();
        parting();
        partingOfSeveral();
        partingLeavesTheLast();
        noParting();
        due.end();
    }

    private static SkyLights passOf(String from, String to, int ticks) {
        SkyLights lights = new SkyLights();
        Tapes.figure(lights, from);
        Tapes.figure(lights, to);
        lights.pass(0, 1, ticks);
        return lights;
    }

    private static void leastGreatestWay() {
        SkyLights lights = new SkyLights();
        Tapes.figure(lights, "0,0,0:0;10,0,0:0");
        Tapes.figure(lights, "10,0,0:0;20,0,0:0");
        // The sum of ways is less crosswise (0 and 20), the greatest is not.
        due.is("one up", lights.pass(0, 1, 1), 100);
        due.is("goes(0)", lights.goes(0), 0);
        due.is("goes(1)", lights.goes(1), 1);
        due.is("back", lights.pass(1, 0, 30), 100);
        due.is("goes(0)", lights.goes(0), 0);
        due.is("to itself", lights.pass(1, 1, 30), 0);
        due.is("goes(1)", lights.goes(1), 1);
        due.is("goes(2)", lights.goes(2), -1);
        due.is("goes(-1)", lights.goes(-1), -1);
        due.is("goes least", lights.goes(LEAST), -1);
        due.is("goes most", lights.goes(MOST), -1);
        Tapes.figure(lights, "0,0,50:0;0,0,0:0");
        Tapes.figure(lights, "0,0,0:0;0,0,60:0");
        due.is("height counts", lights.pass(2, 3, 30), 100);
        due.is("crosswise", lights.goes(0), 1);
        due.is("crosswise", lights.goes(1), 0);
    }

    private static void leastGoals() {
        SkyLights lights = new SkyLights();
        Tapes.figure(lights, "-10,0,0:0;10,0,0:0");
        Tapes.figure(lights, "0,10,0:0;0,-10,0:0");
        due.is("all alike", lights.pass(0, 1, 5), 200);
        due.is("goes(0)", lights.goes(0), 0);
        due.is("goes(1)", lights.goes(1), 1);
        // Point 2 has far to go: the others take the least goals, though they stand at others.
        Tapes.figure(lights, "0,0,0:0;1,0,0:0;100,0,0:0");
        Tapes.figure(lights, "1,0,0:0;0,0,0:0;200,0,0:0");
        due.is("one far", lights.pass(2, 3, 5), 10000);
        due.is("goes(0)", lights.goes(0), 0);
        due.is("goes(1)", lights.goes(1), 1);
        due.is("goes(2)", lights.goes(2), 2);
        // Point 0 can't have goal 0, nor can point 1 have goal 1.
        Tapes.figure(lights, "0,0,0:0;0,100,0:0;100,0,0:0");
        Tapes.figure(lights, "100,0,0:0;0,0,0:0;0,100,0:0");
        due.is("around", lights.pass(4, 5, 5), 0);
        due.is("goes(0)", lights.goes(0), 1);
        due.is("goes(1)", lights.goes(1), 2);
        due.is("goes(2)", lights.goes(2), 0);
        Tapes.figure(lights, "5,5,5:0;5,5,5:0;5,5,5:0;5,5,5:0;5,5,5:0;5,5,5:0;5,5,5:0;5,5,5:0;5,5,5:0;5,5,5:0");
        due.is("ten at one place", lights.pass(6, 6, 5), 0);
        for (int i = 0; i < 10; i++) {
            due.is("goes(" + i + ")", lights.goes(i), i);
        }
    }

    private static void padsAndFigures() {
        SkyLights lights = new SkyLights();
        lights.flyer(0, 0, 0);
        Tapes.figure(lights, "3,4,0:0");
        Tapes.figure(lights, "0,0,0:0;9,9,9:0");
        due.is("to a figure", lights.pass(-1, 0, 1), 25);
        due.is("to the pads", lights.pass(0, -1, 1), 25);
        due.is("pads to pads", lights.pass(-1, -1, 1), 0);
        lights.flyer(50, 0, 0);
        due.is("the pass is of one still", lights.goes(1), -1);
        due.is("of two", lights.pass(-1, 1, 1), 81 + 81 + 41 * 41);
        due.is("goes(1)", lights.goes(1), 1);
    }

    private static void passesAreRefused() {
        SkyLights lights = new SkyLights();
        due.is("no flyers", lights.pass(-1, -1, 1), -3);
        due.is("bad ahead of state", lights.pass(-1, -1, 0), -2);
        due.is("no figure", lights.pass(-1, 0, 1), -1);
        Tapes.figure(lights, "1,1,1:1");
        Tapes.figure(lights, "1,1,1:1;2,2,2:2");
        due.is("from -2", lights.pass(-2, 0, 1), -1);
        due.is("from 2", lights.pass(2, 0, 1), -1);
        due.is("to -2", lights.pass(0, -2, 1), -1);
        due.is("to 2", lights.pass(0, 2, 1), -1);
        due.is("from least", lights.pass(LEAST, 0, 1), -1);
        due.is("to most", lights.pass(0, MOST, 1), -1);
        due.is("none ahead of bad", lights.pass(0, 2, 0), -1);
        due.is("ticks 0", lights.pass(0, 0, 0), -2);
        due.is("ticks 31", lights.pass(0, 0, 31), -2);
        due.is("ticks least", lights.pass(0, 0, LEAST), -2);
        due.is("ticks most", lights.pass(0, 0, MOST), -2);
        due.is("bad ahead of state", lights.pass(0, 1, 31), -2);
        due.is("not as many", lights.pass(0, 1, 30), -3);
        due.is("not as many pads", lights.pass(-1, 0, 30), -3);
        due.is("not as many pads", lights.pass(0, -1, 30), -3);
        due.is("no pass yet", lights.clean(), -3);
        due.is("ticks 30", lights.pass(0, 0, 30), 0);
        due.is("ticks 1", lights.pass(1, 1, 1), 0);
    }

    private static void theLatestPassStays() {
        SkyLights lights = passOf("0,0,0:0;100,0,0:0", "100,9,0:0;0,9,0:0", 5);
        lights.delay(1, 4);
        lights.pass(0, 2, 5);
        lights.pass(0, 1, 0);
        lights.pass(-1, 1, 5);
        due.is("goes(0)", lights.goes(0), 1);
        due.is("goes(1)", lights.goes(1), 0);
        due.is("its delay", lights.delay(1, 4), 4);
        lights.pass(0, 1, 5);
        due.is("a new pass has no delays", lights.delay(1, 0), 0);
    }

    private static void delays() {
        SkyLights lights = new SkyLights();
        due.is("no pass", lights.delay(0, 0), -1);
        Tapes.figure(lights, "0,0,0:0;100,0,0:0");
        lights.pass(0, 0, 5);
        due.is("at first", lights.delay(0, 9), 0);
        due.is("9", lights.delay(0, 0), 9);
        due.is("0", lights.delay(0, 5), 0);
        due.is("-1", lights.delay(0, -1), -2);
        due.is("10", lights.delay(0, 10), -2);
        due.is("least", lights.delay(0, LEAST), -2);
        due.is("most", lights.delay(0, MOST), -2);
        due.is("none ahead of bad", lights.delay(2, 10), -1);
        due.is("point 2", lights.delay(2, 1), -1);
        due.is("point -1", lights.delay(-1, 1), -1);
        due.is("point most", lights.delay(MOST, 1), -1);
        due.is("point least", lights.delay(LEAST, 1), -1);
        due.is("5 stays", lights.delay(0, 0), 5);
        due.is("the other's", lights.delay(1, 3), 0);
    }

    private static void clashes() {
        // Point 1 comes by point 0, which stands, 10 far, at the middle of the one tick.
        SkyLights lights = passOf("0,0,0:0;-30,10,0:0" + FAR, "0,0,0:0;30,10,0:0" + FAR_OFF, 1);
        due.is("goes(1)", lights.goes(1), 1);
        due.is("just so far", lights.clash(0, 1), 0);
        due.is("just so far", lights.clash(1, 0), 0);
        lights.gap(11);
        due.is("nearer", lights.clash(0, 1), 1);
        due.is("nearer", lights.clash(1, 0), 1);
        due.is("not the far one", lights.clash(0, 2), 0);
        lights.delay(0, 9);
        lights.delay(1, 5);
        due.is("it stands whatever its delay", lights.clash(0, 1), 1);
        lights.gap(0);
        due.is("gap 0", lights.clash(0, 1), 0);
        // Both go, and are nearest (0 far) in the middle of a tick.
        lights = passOf("0,0,0:0;0,0,30:0" + FAR, "0,0,30:0;0,0,0:0" + FAR_OFF, 3);
        lights.gap(1);
        due.is("through one another", lights.clash(0, 1), 1);
        // One that ends where the other one begins is away by then.
        lights = passOf("0,0,0:0;40,0,0:0" + FAR, "40,0,0:0;80,0,0:0" + FAR_OFF, 8);
        lights.gap(40);
        due.is("one behind the other", lights.clash(0, 1), 0);
        lights.delay(0, 9);
        due.is("the one ahead sets out", lights.clash(0, 1), 0);
        lights.delay(0, 0);
        lights.delay(1, 1);
        due.is("the one behind sets out", lights.clash(0, 1), 1);
        lights.gap(35);
        due.is("5 nearer", lights.clash(0, 1), 0);
        lights.gap(36);
        due.is("5 nearer", lights.clash(0, 1), 1);
        lights.delay(1, 9);
        lights.gap(1);
        due.is("it is met where it stands", lights.clash(0, 1), 1);
    }

    private static void clashesInFollowing() {
        // 20 apart on one line, 10 a tick.
        SkyLights lights = passOf("0,0,0:0;-20,0,0:0", "100,0,0:0;80,0,0:0", 10);
        due.is("goes(0)", lights.goes(0), 0);
        lights.gap(20);
        due.is("no delays", lights.clash(0, 1), 0);
        lights.delay(1, 3);
        due.is("the one behind is late", lights.clash(0, 1), 0);
        lights.delay(0, 3);
        due.is("both are late", lights.clash(0, 1), 0);
        lights.delay(0, 4);
        due.is("the one ahead is later by 1", lights.clash(0, 1), 1);
        lights.gap(10);
        due.is("10 far then", lights.clash(0, 1), 0);
        lights.gap(11);
        due.is("10 far then", lights.clash(0, 1), 1);
        lights.delay(0, 5);
        lights.gap(1);
        due.is("later by 2", lights.clash(0, 1), 1);
    }

    private static void clashesAtTheEnds() {
        SkyLights lights = passOf("0,0,0:0;5,0,0:0", "-50,0,0:0;50,0,0:0", 10);
        due.is("near at the begin", lights.clash(0, 1), 1);
        lights.gap(5);
        due.is("not with gap 5", lights.clash(0, 1), 0);
        lights = passOf("-50,0,0:0;50,0,0:0", "0,0,0:0;5,0,0:0", 10);
        due.is("near at the end", lights.clash(0, 1), 1);
        lights.delay(0, 9);
        due.is("near at the end, late", lights.clash(0, 1), 1);
        lights.gap(5);
        due.is("not with gap 5", lights.clash(0, 1), 0);
        lights = passOf("0,0,50:0;5,0,50:0", "0,0,0:0;5,0,100:0", 10);
        due.is("far at the end by height", lights.clash(0, 1), 1);
        lights.gap(5);
        due.is("5 far at the begin", lights.clash(0, 1), 0);
        lights = passOf("0,0,0:0;0,0,100:0", "0,0,50:0;0,0,59:0", 10);
        due.is("near at the end by height", lights.clash(0, 1), 1);
        lights.gap(9);
        due.is("9 far at the end", lights.clash(0, 1), 0);
        lights = passOf("0,0,0:0;0,0,9:0", "0,0,0:0;0,0,9:0", 10);
        due.is("both stand", lights.clash(0, 1), 1);
        lights.gap(9);
        due.is("both stand", lights.clash(0, 1), 0);
    }

    private static void clashIsRefused() {
        SkyLights lights = new SkyLights();
        due.is("no pass", lights.clash(0, 1), -1);
        due.is("no pass", lights.clash(0, 0), -1);
        Tapes.figure(lights, "0,0,0:0;0,0,0:0");
        lights.pass(0, 0, 5);
        due.is("one", lights.clash(1, 1), -2);
        due.is("none ahead of bad", lights.clash(2, 2), -1);
        int[][] none = {{-1, 0}, {0, -1}, {2, 0}, {0, 2}, {LEAST, 0}, {0, LEAST}, {MOST, 0}, {0, MOST}};
        for (int[] n : none) {
            due.is("clash(" + n[0] + ", " + n[1] + ")", lights.clash(n[0], n[1]), -1);
        }
    }

    private static void exactTouch() {
        // The way from -10, -30 to 50, 50 comes to just 10 from 0, 0, at 0.3 of it: no whole tick of 7.
        SkyLights lights = passOf("0,0,0:0;-10,-30,0:0" + FAR, "0,0,0:0;50,50,0:0" + FAR_OFF, 7);
        due.is("just 10", lights.clash(0, 1), 0);
        lights.gap(11);
        due.is("less than 11", lights.clash(0, 1), 1);
        // From -100, 2 to 100, 0: 200 / sqrt(40004) is a hair below 1.
        lights = passOf("0,0,0:0;-100,2,0:0" + FAR, "0,0,0:0;100,0,0:0" + FAR_OFF, 30);
        lights.gap(1);
        due.is("a hair less than 1", lights.clash(0, 1), 1);
        lights = passOf("0,0,0:0;-100,1,0:0" + FAR, "0,0,0:0;100,1,0:0" + FAR_OFF, 30);
        lights.gap(1);
        due.is("just 1", lights.clash(0, 1), 0);
        // The greatest numbers there are.
        lights = passOf("-200,-200,0:0;200,200,200:0", "200,200,200:0;-200,-200,0:0", 30);
        due.is("they stay", lights.goes(0), 1);
        lights = passOf("-200,-200,0:0;200,200,200:0;-200,200,0:0", "200,200,0:0;-200,-200,200:0;200,-200,200:0", 30);
        due.is("greatest way", lights.pass(0, 1, 30), 400 * 400);
    }

    private static void theZone() {
        // By 0, 0 just 10 far, at any height.
        SkyLights lights = passOf("-10,-30,200:0", "50,50,100:0", 7);
        lights.zone(0, 0, 10);
        due.is("just 10", lights.enters(0), 0);
        lights.zone(0, 0, 11);
        due.is("less than 11", lights.enters(0), 1);
        lights.delay(0, 9);
        due.is("delays do not matter", lights.enters(0), 1);
        lights.zone(-30, -50, 28);
        due.is("the begin is 28.3 far", lights.enters(0), 0);
        lights.zone(-30, -50, 29);
        due.is("the begin", lights.enters(0), 1);
        lights.zone(70, 70, 28);
        due.is("the end is 28.3 far", lights.enters(0), 0);
        lights.zone(70, 70, 29);
        due.is("the end", lights.enters(0), 1);
        lights.zone(20, 10, 0);
        due.is("no zone on the way", lights.enters(0), 0);
        lights.zone(20, 10, 1);
        due.is("on the way", lights.enters(0), 1);
        due.is("point 1", lights.enters(1), -1);
        due.is("point -1", lights.enters(-1), -1);
        due.is("point most", lights.enters(MOST), -1);
        due.is("point least", lights.enters(LEAST), -1);
        due.is("no pass", new SkyLights().enters(0), -1);
    }

    private static void cleanPasses() {
        due.is("no pass", new SkyLights().clean(), -3);
        SkyLights lights = passOf("0,0,0:0;-20,0,0:0", "100,0,0:0;80,0,0:0", 10);
        due.is("clean", lights.clean(), 1);
        lights.delay(0, 2);
        due.is("two clash", lights.clean(), 0);
        lights.delay(0, 0);
        lights.zone(90, 20, 20);
        due.is("just so far", lights.clean(), 1);
        lights.zone(90, 20, 21);
        due.is("one enters", lights.clean(), 0);
        due.is("who", lights.enters(0), 1);
        lights.zone(-30, 0, 11);
        due.is("the last one enters", lights.clean(), 0);
        lights.zone(0, 0, 0);
        due.is("clean again", lights.clean(), 1);
        lights.gap(21);
        due.is("a greater gap", lights.clean(), 0);
        lights = passOf("0,0,0:0", "100,0,0:0", 10);
        due.is("one alone", lights.clean(), 1);
    }

    /** Two cross in the middle at 10 a tick: with a lag of n ticks they are 7.07 n far at the least. */
    private static SkyLights crossing() {
        return passOf("-50,0,0:0;0,-50,0:0" + FAR, "50,0,0:0;0,50,0:0" + FAR_OFF, 10);
    }

    private static void parting() {
        SkyLights lights = crossing();
        lights.delay(2, 9);
        lights.delay(0, 1);
        due.is("not clean", lights.clean(), 0);
        due.is("gap 10", lights.part(), 2);
        due.is("delay 0", lights.delay(0, 0), 0);
        due.is("delay 1", lights.delay(1, 2), 2);
        due.is("delay 2", lights.delay(2, 0), 0);
        due.is("clean", lights.clean(), 1);
        lights.gap(21);
        due.is("gap 21", lights.part(), 3);
        due.is("delay 1", lights.delay(1, 3), 3);
        lights.delay(2, 7);
        lights.gap(22);
        due.is("gap 22", lights.part(), -3);
        due.is("delays stay", lights.delay(1, 3), 3);
        due.is("delays stay", lights.delay(2, 7), 7);
        lights.gap(7);
        due.is("gap 7", lights.part(), 1);
        lights.gap(0);
        due.is("gap 0", lights.part(), 0);
        due.is("no delays", lights.delay(1, 0), 0);
    }

    private static void partingOfSeveral() {
        // The third one goes high above the two that cross.
        SkyLights lights = passOf("-50,0,0:0;0,-50,0:0;-50,10,100:0" + FAR, "50,0,0:0;0,50,0:0;50,10,100:0" + FAR_OFF, 10);
        due.is("one crossing", lights.part(), 2);
        lights = passOf("-50,0,0:0;-50,0,100:0;0,-50,0:0;0,-50,100:0" + FAR,
                "50,0,0:0;50,0,100:0;0,50,0:0;0,50,100:0" + FAR_OFF, 10);
        due.is("two crossings", lights.part(), 4);
        int[] delays = {0, 0, 2, 2, 0};
        for (int i = 0; i < delays.length; i++) {
            due.is("delay " + i, lights.delay(i, 0), delays[i]);
        }
        // Point 0 crosses both others: better that one waits than that two do.
        lights = passOf("-50,0,50:0;0,-50,50:0;-20,-30,50:0" + FAR, "50,0,50:0;0,50,50:0;-20,70,50:0" + FAR_OFF, 10);
        due.is("the first one waits", lights.part(), 2);
        due.is("delay 0", lights.delay(0, 0), 2);
        due.is("delay 1", lights.delay(1, 0), 0);
        due.is("delay 2", lights.delay(2, 0), 0);
        // Three through one middle, 10 a tick each: lags of 1 from one to the next.
        lights = passOf("-50,0,50:0;0,-50,50:0;0,0,0:0" + FAR, "50,0,50:0;0,50,50:0;0,0,100:0" + FAR_OFF, 10);
        lights.gap(7);
        due.is("three through the middle", lights.part(), 3);
        int[] three = {0, 1, 2, 0};
        for (int i = 0; i < three.length; i++) {
            due.is("delay " + i, lights.delay(i, 0), three[i]);
        }
        // Two go 10 apart on one line: the third one must wait until both are through.
        lights = passOf("0,0,0:0;-10,0,0:0;50,-50,0:0" + FAR, "100,0,0:0;90,0,0:0;50,50,0:0" + FAR_OFF, 10);
        due.is("as slow as it is", lights.clean(), 0);
        due.is("the one that crosses waits", lights.part(), 3);
        due.is("delay 2", lights.delay(2, 0), 3);
    }

    private static void partingLeavesTheLast() {
        // Five that stand, far from all, ahead of two that cross: points 5 and 6.
        String stand = "-200,-100,0:0;-200,-80,0:0;-200,-60,0:0;-200,-40,0:0;-200,-20,0:0;";
        SkyLights lights = passOf(stand + "-50,0,0:0;0,-50,0:0" + FAR, stand + "50,0,0:0;0,50,0:0" + FAR_OFF, 10);
        due.is("point 5 waits", lights.part(), 2);
        due.is("delay 5", lights.delay(5, 0), 2);
        due.is("delay 6", lights.delay(6, 0), 0);
        // With one more they are points 6 and 7, and have no delays.
        stand += "-200,0,0:0;";
        lights = passOf(stand + "-50,0,0:0;0,-50,0:0" + FAR, stand + "50,0,0:0;0,50,0:0" + FAR_OFF, 10);
        lights.delay(6, 2);
        due.is("clean by hand", lights.clean(), 1);
        due.is("nobody to wait", lights.part(), -3);
        due.is("delay 6 stays", lights.delay(6, 0), 2);
    }

    private static void noParting() {
        due.is("no pass", new SkyLights().part(), -3);
        SkyLights lights = crossing();
        lights.delay(1, 1);
        lights.zone(0, 40, 5);
        due.is("the zone", lights.part(), -3);
        due.is("delay 1 stays", lights.delay(1, 1), 1);
        lights.zone(0, 0, 0);
        due.is("no zone", lights.part(), 2);
        lights = passOf("0,0,0:0;0,5,0:0", "100,0,0:0;100,50,0:0", 10);
        due.is("near at the begin", lights.part(), -3);
    }
}
