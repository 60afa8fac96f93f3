/** Promises 16 to 26: the show. */
public final class ShowTest {
    private static final Due due = new Due("ShowTest");
    private static final int LEAST = Integer.MIN_VALUE;
    private static final int MOST = Integer.MAX_VALUE;

    public static void main(String[] args) {
        scenes();
        scenesAreRefused();
        scenesAreFull();
        whoStandsWhere();
        lengths();
        charges();
        chargesWithoutScenes();
        lasting();
        margins();
        colours();
        coloursInOneTick();
        uncleanScenes();
        uncleanByTheZone();
        failures();
        failuresInLaterScenes();
        cuts();
        due.end();
    }

    private static SkyLights team(int[]... flyers) {
        SkyLights lights = new SkyLights();
        for (int[] flyer : flyers) {
            lights.flyer(flyer[0], flyer[1], flyer[2]);
        }
        return lights;
    }

    private static void scenes() {
        SkyLights lights = team(new int[] {0, 0, 1000});
        Tapes.figure(lights, "0,0,10:0");
        due.is("the least", lights.scene(0, 1, 0, 0), 0);
        due.is("the most", lights.scene(0, 30, 100, 255), 1);
        due.is("the same figure again", lights.scene(0, 30, 100, 255), 2);
        due.is("scenes", lights.count(2), 3);
    }

    private static void scenesAreRefused() {
        SkyLights lights = new SkyLights();
        Tapes.figure(lights, "0,0,10:0");
        Tapes.figure(lights, "0,0,10:0;50,0,10:0");
        due.is("no flyers", lights.scene(0, 1, 0, 0), -3);
        lights.flyer(0, 0, 1000);
        int[][] calls = {
            {-1, 1, 0, 0, -1}, {2, 1, 0, 0, -1}, {LEAST, 1, 0, 0, -1}, {MOST, 1, 0, 0, -1}, {2, 0, -1, 256, -1},
            {-1, 31, 101, -1, -1}, {0, 0, 0, 0, -2}, {0, 31, 0, 0, -2}, {0, LEAST, 0, 0, -2}, {0, MOST, 0, 0, -2},
            {0, 1, -1, 0, -2}, {0, 1, 101, 0, -2}, {0, 1, LEAST, 0, -2}, {0, 1, MOST, 0, -2}, {0, 1, 0, -1, -2},
            {0, 1, 0, 256, -2}, {0, 1, 0, LEAST, -2}, {0, 1, 0, MOST, -2}, {1, 0, 0, 0, -2}, {1, 1, 0, 256, -2},
            {1, 1, 0, 0, -3},
        };
        for (int[] n : calls) {
            String call = "scene(" + n[0] + ", " + n[1] + ", " + n[2] + ", " + n[3] + ")";
            due.is(call, lights.scene(n[0], n[1], n[2], n[3]), n[4]);
        }
        due.is("no scenes", lights.count(2), 0);
        lights.flyer(50, 0, 1000);
        due.is("more flyers than points", lights.scene(0, 1, 0, 0), -3);
        due.is("as many", lights.scene(1, 1, 0, 0), 0);
    }

    private static void scenesAreFull() {
        SkyLights lights = team(new int[] {0, 0, 1000});
        Tapes.figure(lights, "0,0,10:0");
        Tapes.figure(lights, "0,0,10:0;1,1,1:1");
        for (int i = 0; i < 12; i++) {
            due.is("scene " + i, lights.scene(0, 2, 3, i), i);
        }
        due.is("one more", lights.scene(0, 2, 3, 0), -4);
        due.is("state ahead of full", lights.scene(1, 2, 3, 0), -3);
        due.is("bad ahead of full", lights.scene(0, 0, 3, 0), -2);
        due.is("none ahead of full", lights.scene(2, 2, 3, 0), -1);
        due.is("scenes", lights.count(2), 12);
        due.is("length", lights.length(), 12 * 5 + 2);
        due.is("its last scene", lights.stands(0, 11), 0);
        due.is("no scene", lights.stands(0, 12), -1);
        due.is("colour of the last", lights.colour(58), 11);
        due.is("charge", lights.left(0), 1000 - 12 * 12 - 2 - 6);
    }

    /** Three on a line go around by one, then stand still, then go home. */
    private static SkyLights rounds() {
        SkyLights lights = team(new int[] {0, 0, 500}, new int[] {100, 0, 600}, new int[] {0, 100, 700});
        Tapes.figure(lights, "100,0,10:3;0,100,20:1;0,0,30:2");
        Tapes.figure(lights, "0,100,5:1;0,0,40:1;100,0,10:0");
        return lights;
    }

    private static void whoStandsWhere() {
        SkyLights lights = rounds();
        due.is("no scene to stand in", lights.stands(0, 0), -1);
        due.is("no scene to land from", lights.lands(0), -3);
        due.is("none ahead of state", lights.lands(3), -1);
        lights.scene(0, 5, 0, 0);
        lights.scene(1, 6, 0, 0);
        int[][] stands = {{2, 1}, {0, 2}, {1, 0}};
        for (int flyer = 0; flyer < 3; flyer++) {
            due.is("stands(" + flyer + ", 0)", lights.stands(flyer, 0), stands[flyer][0]);
            due.is("stands(" + flyer + ", 1)", lights.stands(flyer, 1), stands[flyer][1]);
            due.is("lands(" + flyer + ")", lights.lands(flyer), flyer);
        }
        int[][] none = {{-1, 0}, {3, 0}, {0, -1}, {0, 2}, {LEAST, 0}, {MOST, 0}, {0, LEAST}, {0, MOST}};
        for (int[] n : none) {
            due.is("stands(" + n[0] + ", " + n[1] + ")", lights.stands(n[0], n[1]), -1);
        }
        for (int n : new int[] {-1, 3, LEAST, MOST}) {
            due.is("lands(" + n + ")", lights.lands(n), -1);
        }
        // All places are as far from both pads: point 0 goes to pad 0, whoever stands there.
        lights = team(new int[] {-10, 0, 0}, new int[] {10, 0, 0});
        Tapes.figure(lights, "0,10,0:0;0,-10,0:0");
        Tapes.figure(lights, "0,-10,0:0;0,10,0:0");
        lights.scene(0, 5, 0, 0);
        due.is("stands(0, 0)", lights.stands(0, 0), 0);
        lights.scene(1, 5, 0, 0);
        due.is("stands(0, 1)", lights.stands(0, 1), 1);
        due.is("stands(1, 1)", lights.stands(1, 1), 0);
        due.is("lands(0)", lights.lands(0), 1);
        due.is("lands(1)", lights.lands(1), 0);
        lights.cut();
        due.is("lands(0) behind cut", lights.lands(0), 0);
        due.is("no scene 1", lights.stands(0, 1), -1);
    }

    private static void lengths() {
        SkyLights lights = rounds();
        due.is("no scenes", lights.length(), 0);
        lights.scene(0, 5, 0, 0);
        due.is("there and back", lights.length(), 10);
        lights.scene(1, 7, 100, 0);
        due.is("two scenes", lights.length(), 5 + 7 + 100 + 7);
        lights.cut();
        due.is("one again", lights.length(), 10);
    }

    private static void charges() {
        SkyLights lights = rounds();
        lights.scene(0, 5, 10, 0);
        // All go up: 5 times 4 there, 10 times 2 held, 5 times 3 home.
        due.is("left(0)", lights.left(0), 500 - 20 - 20 - 15);
        due.is("left(2)", lights.left(2), 700 - 20 - 20 - 15);
        lights.scene(1, 7, 1, 0);
        // Flyer 0 goes from 30 to 40, flyer 1 from 10 to 10, flyer 2 from 20 to 5.
        due.is("stands(2, 1)", lights.stands(2, 1), 0);
        due.is("left(0)", lights.left(0), 500 - 40 - 28 - 2 - 21);
        due.is("left(1)", lights.left(1), 600 - 40 - 21 - 2 - 21);
        due.is("left(2)", lights.left(2), 700 - 40 - 21 - 2 - 21);
        for (int n : new int[] {-1, 3, LEAST, MOST}) {
            due.is("left(" + n + ")", lights.left(n), -1000000);
        }
        lights = team(new int[] {0, 0, 10}, new int[] {50, 0, 100});
        Tapes.figure(lights, "0,0,0:0;50,0,1:0");
        lights.scene(0, 30, 100, 0);
        due.is("below 0", lights.left(0), 10 - 90 - 200 - 90);
        due.is("upward", lights.left(1), 100 - 120 - 200 - 90);
    }

    private static void chargesWithoutScenes() {
        SkyLights lights = rounds();
        due.is("nobody flies", lights.left(1), 600);
        due.is("none", new SkyLights().left(0), -1000000);
        lights.scene(0, 1, 0, 0);
        due.is("a tick up, a tick home", lights.left(1), 593);
        lights.cut();
        due.is("nobody flies again", lights.left(1), 600);
    }

    private static void lasting() {
        SkyLights lights = team(new int[] {0, 0, 49}, new int[] {50, 0, 50}, new int[] {0, 50, 51});
        due.is("50 is enough", lights.last(), 6);
        lights.margin(51);
        due.is("51 is enough", lights.last(), 4);
        lights.margin(52);
        due.is("nobody", lights.last(), 0);
        lights.margin(0);
        due.is("all", lights.last(), 7);
        Tapes.figure(lights, "0,0,0:0;50,0,0:0;0,50,9:0");
        // Each way 7 ticks: 42, and 49 for the one that goes up.
        lights.scene(0, 7, 0, 0);
        lights.margin(7);
        due.is("with a scene", lights.last(), 3);
        lights.margin(0);
        due.is("all of them", lights.last(), 7);
        lights.scene(0, 1, 0, 0);
        due.is("scenes of 7 and 1, home of 1", lights.left(2), 51 - 28 - 3 - 3);
        lights.cut();
        lights.scene(0, 9, 0, 0);
        due.is("below 0", lights.last(), 0);
        due.is("nobody there", new SkyLights().last(), 0);
    }

    private static void margins() {
        SkyLights lights = new SkyLights();
        due.is("margin at first", lights.margin(0), 50);
        due.is("margin 0", lights.margin(10000), 0);
        for (int bad : new int[] {-1, 10001, LEAST, MOST}) {
            due.is("margin(" + bad + ")", lights.margin(bad), -2);
        }
        due.is("margin stays", lights.count(6), 10000);
        due.is("margin 10000", lights.margin(1), 10000);
    }

    private static void colours() {
        SkyLights lights = team(new int[] {0, 0, 500});
        Tapes.figure(lights, "0,0,10:0");
        due.is("no scenes", lights.colour(0), -1);
        lights.scene(0, 3, 2, 100);
        lights.scene(0, 7, 0, 20);
        lights.scene(0, 4, 1, 255);
        // 0 to 100 in 3, held 2, to 20 in 7 (by 11.4), to 255 in 4 (by 58.75), held 1, to 0 in 4.
        int[] due1 = {0, 33, 66, 100, 100, 100, 89, 78, 66, 55, 43, 32, 20, 78, 137, 196, 255, 255, 192, 128, 64, 0};
        for (int tick = 0; tick < due1.length; tick++) {
            due.is("colour(" + tick + ")", lights.colour(tick), due1[tick]);
        }
        due.is("length", lights.length(), due1.length - 1);
        for (int n : new int[] {-1, due1.length, LEAST, MOST}) {
            due.is("colour(" + n + ")", lights.colour(n), -1);
        }
        lights.cut();
        lights.cut();
        due.is("home from 100", lights.colour(6), 67);
        due.is("the end", lights.colour(8), 0);
        due.is("behind the end", lights.colour(9), -1);
    }

    private static void coloursInOneTick() {
        SkyLights lights = team(new int[] {0, 0, 500});
        Tapes.figure(lights, "0,0,10:0");
        lights.scene(0, 1, 0, 255);
        due.is("begin", lights.colour(0), 0);
        due.is("top", lights.colour(1), 255);
        due.is("end", lights.colour(2), 0);
        due.is("behind", lights.colour(3), -1);
        lights.scene(0, 30, 100, 254);
        int[][] moments = {{1, 255}, {2, 255}, {30, 255}, {31, 254}, {131, 254}, {132, 246}, {160, 9}, {161, 0}};
        for (int[] moment : moments) {
            due.is("colour(" + moment[0] + ")", lights.colour(moment[0]), moment[1]);
        }
    }

    private static void uncleanScenes() {
        SkyLights lights = team(new int[] {0, 0, 500}, new int[] {40, 0, 500});
        Tapes.figure(lights, "0,0,20:0;40,0,20:0");
        Tapes.figure(lights, "0,0,20:0;9,0,20:0");
        due.is("no scenes", lights.unclean(), 0);
        lights.scene(0, 5, 5, 0);
        due.is("clean", lights.unclean(), 0);
        lights.scene(1, 5, 5, 0);
        due.is("into the narrow one, and home from it", lights.unclean(), 2 + 4096);
        lights.scene(0, 5, 5, 0);
        due.is("into it and out of it", lights.unclean(), 2 + 4);
        lights.gap(9);
        due.is("gap 9", lights.unclean(), 0);
        lights.gap(41);
        due.is("gap 41", lights.unclean(), 1 + 2 + 4 + 4096);
        lights.cut();
        lights.cut();
        due.is("of the first alone", lights.unclean(), 1 + 4096);
        // The delays of pass() are not the show's.
        lights.gap(10);
        lights.pass(-1, 0, 5);
        lights.delay(0, 9);
        due.is("clean", lights.unclean(), 0);
        // Twelve scenes: bit 11 and bit 12.
        for (int i = 1; i < 11; i++) {
            lights.scene(0, 5, 5, 0);
        }
        lights.scene(1, 5, 5, 0);
        due.is("twelve", lights.unclean(), 2048 + 4096);
    }

    private static void uncleanByTheZone() {
        SkyLights lights = team(new int[] {0, 0, 500});
        Tapes.figure(lights, "100,0,20:0");
        Tapes.figure(lights, "100,100,20:0");
        lights.scene(0, 5, 5, 0);
        lights.scene(1, 5, 5, 0);
        due.is("no zone", lights.unclean(), 0);
        lights.zone(50, -10, 11);
        due.is("the first", lights.unclean(), 1);
        lights.zone(110, 50, 11);
        due.is("the second", lights.unclean(), 2);
        lights.zone(50, 50, 1);
        due.is("home", lights.unclean(), 4096);
        lights.zone(110, 50, 10);
        due.is("just so far", lights.unclean(), 0);
        lights.zone(200, 200, 200);
        due.is("all that come to 100, 100", lights.unclean(), 2 + 4096);
    }

    private static void failures() {
        SkyLights lights = team(new int[] {0, 0, 0}, new int[] {50, 0, 0}, new int[] {100, 0, 0},
                new int[] {150, 0, 0});
        Tapes.figure(lights, "0,0,0:5;50,0,0:2;100,0,0:2;150,0,0:7");
        due.is("no scene", lights.fails(0, 0, 0), -1);
        lights.scene(0, 5, 5, 5);
        int[] helpers = {1, -2, -2, 1};
        for (int flyer = 0; flyer < 4; flyer++) {
            due.is("fails(" + flyer + ", 0, 0)", lights.fails(flyer, 0, 0), 2);
            due.is("fails(" + flyer + ", 0, 1)", lights.fails(flyer, 0, 1), helpers[flyer]);
        }
        int[][] none = {{-1, 0, 0}, {4, 0, 0}, {0, -1, 0}, {0, 1, 0}, {0, 0, -1}, {0, 0, 2}, {LEAST, 0, 0},
            {MOST, 0, 0}, {0, LEAST, 0}, {0, MOST, 0}, {0, 0, LEAST}, {0, 0, MOST}};
        for (int[] n : none) {
            due.is("fails(" + n[0] + ", " + n[1] + ", " + n[2] + ")", lights.fails(n[0], n[1], n[2]), -1);
        }
        Tapes.figure(lights, "0,0,0:2;50,0,0:3;100,0,0:2;150,0,0:7");
        lights.cut();
        lights.scene(1, 5, 5, 5);
        int[] others = {-2, 0, -2, 0};
        for (int flyer = 0; flyer < 4; flyer++) {
            due.is("flyer 0 helps " + flyer, lights.fails(flyer, 0, 1), others[flyer]);
        }
        lights = team(new int[] {0, 0, 0});
        Tapes.figure(lights, "0,0,0:9");
        lights.scene(0, 5, 5, 5);
        due.is("one alone", lights.fails(0, 0, 0), 9);
        due.is("nobody takes it", lights.fails(0, 0, 1), -2);
    }

    private static void failuresInLaterScenes() {
        SkyLights lights = rounds();
        lights.scene(0, 5, 0, 0);
        lights.scene(1, 6, 0, 0);
        // Scene 0: flyer 0 at 2 (worth 2), 1 at 0 (3), 2 at 1 (1). Scene 1: 0 at 1 (1), 1 at 2 (0), 2 at 0 (1).
        int[][] helpers = {{2, 1}, {2, -2}, {-2, 1}};
        for (int flyer = 0; flyer < 3; flyer++) {
            for (int scene = 0; scene < 2; scene++) {
                String call = "fails(" + flyer + ", " + scene + ", ";
                due.is(call + "0)", lights.fails(flyer, scene, 0), 1 - scene);
                due.is(call + "1)", lights.fails(flyer, scene, 1), helpers[flyer][scene]);
            }
        }
    }

    private static void cuts() {
        due.is("nothing to cut", new SkyLights().cut(), -3);
        SkyLights lights = rounds();
        lights.scene(0, 5, 0, 9);
        lights.scene(1, 6, 0, 8);
        due.is("the second", lights.cut(), 1);
        due.is("scenes", lights.count(2), 1);
        due.is("the first stays", lights.colour(5), 9);
        due.is("a new one", lights.scene(0, 7, 1, 7), 1);
        due.is("its length", lights.length(), 5 + 7 + 1 + 7);
        due.is("both", lights.cut() + lights.cut(), 1);
        due.is("none left", lights.cut(), -3);
        due.is("scenes", lights.count(2), 0);
        due.is("from the pads again", lights.scene(1, 5, 0, 1), 0);
        due.is("stands(0, 0)", lights.stands(0, 0), 1);
    }
}
