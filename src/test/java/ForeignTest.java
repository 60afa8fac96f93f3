/** Promises 27 to 31: a foreign show, and the counts. */
public final class ForeignTest {
    private static final Due due = new Due("ForeignTest");
    private static final int LEAST = Integer.MIN_VALUE;
    private static final int MOST = Integer.MAX_VALUE;

    public static void main(String[] args) {
        marks();
        marksAreRefused();
        marksAreFull();
        clashesAtATick();
        clashesBehindATick();
        momentsAlone();
        gapsInTheMarks();
        theZone();
        whoItIs();
        whoIsAskedWrongly();
        theLatestThatToldATick();
        wipes();
        counts();
        due.end();
    }

    private static void marks() {
        SkyLights lights = new SkyLights();
        due.is("the first", lights.mark(0, 0, -200, -200, 0), 1);
        due.is("the last tick", lights.mark(0, 999, 200, 200, 200), 2);
        due.is("another one", lights.mark(9, 0, 0, 0, 0), 3);
        due.is("the next tick", lights.mark(9, 1, 0, 0, 0), 4);
        due.is("marks", lights.count(3), 4);
        due.is("no flyers are needed", lights.count(0), 0);
    }

    private static void marksAreRefused() {
        SkyLights lights = new SkyLights();
        lights.mark(3, 5, 0, 0, 0);
        int[][] calls = {
            {-1, 6, 0, 0, 0, -1}, {10, 6, 0, 0, 0, -1}, {LEAST, 6, 0, 0, 0, -1}, {MOST, 6, 0, 0, 0, -1},
            {10, -1, 0, 0, 0, -1}, {-1, 6, 201, 0, 0, -1}, {3, 5, 0, 0, 0, -2}, {3, 4, 0, 0, 0, -2},
            {3, 0, 0, 0, 0, -2}, {3, -1, 0, 0, 0, -2}, {4, -1, 0, 0, 0, -2}, {3, 1000, 0, 0, 0, -2},
            {4, 1000, 0, 0, 0, -2}, {3, LEAST, 0, 0, 0, -2}, {3, MOST, 0, 0, 0, -2}, {3, 6, -201, 0, 0, -2},
            {3, 6, 201, 0, 0, -2}, {3, 6, LEAST, 0, 0, -2}, {3, 6, MOST, 0, 0, -2}, {3, 6, 0, -201, 0, -2},
            {3, 6, 0, 201, 0, -2}, {3, 6, 0, LEAST, 0, -2}, {3, 6, 0, MOST, 0, -2}, {3, 6, 0, 0, -1, -2},
            {3, 6, 0, 0, 201, -2}, {3, 6, 0, 0, LEAST, -2}, {3, 6, 0, 0, MOST, -2},
        };
        for (int[] n : calls) {
            String call = "mark(" + n[0] + ", " + n[1] + ", " + n[2] + ", " + n[3] + ", " + n[4] + ")";
            due.is(call, lights.mark(n[0], n[1], n[2], n[3], n[4]), n[5]);
        }
        due.is("marks", lights.count(3), 1);
        due.is("the next", lights.mark(3, 6, 0, 0, 0), 2);
        due.is("of another one, ahead", lights.mark(2, 4, 0, 0, 0), 3);
    }

    private static void marksAreFull() {
        SkyLights lights = new SkyLights();
        for (int i = 0; i < 200; i++) {
            due.is("mark " + i, lights.mark(i % 2, i, i % 2 * 50, 0, 0), i + 1);
        }
        due.is("one more", lights.mark(2, 0, 0, 0, 0), -4);
        due.is("one more of 0", lights.mark(0, 200, 0, 0, 0), -4);
        due.is("bad ahead of full", lights.mark(0, 198, 0, 0, 0), -2);
        due.is("none ahead of full", lights.mark(10, 300, 0, 0, 0), -1);
        due.is("marks", lights.count(3), 200);
        due.is("no clash", lights.first(), -1);
        lights.zone(50, 0, 1);
        due.is("flyer 1 is in the zone", lights.first(), 1);
        due.is("wipe", lights.wipe(), 200);
        due.is("room again", lights.mark(2, 0, 0, 0, 0), 1);
        lights = new SkyLights();
        for (int i = 0; i < 100; i++) {
            lights.mark(5, 10 * i, 0, 0, 0);
            lights.mark(6, 10 * i + 9, i == 99 ? 9 : 10, 0, 0);
        }
        due.is("never at one moment", lights.first(), -1);
        lights.wipe();
        for (int i = 0; i < 100; i++) {
            lights.mark(5, 900 + i, 0, 0, 0);
            lights.mark(6, 900 + i, i == 99 ? 9 : 10, 0, 0);
        }
        due.is("the last of all, and on the way to it", lights.first(), 998);
    }

    private static void clashesAtATick() {
        SkyLights lights = new SkyLights();
        due.is("nobody", lights.first(), -1);
        lights.mark(0, 7, 0, 0, 0);
        due.is("one alone", lights.first(), -1);
        lights.mark(1, 7, 6, 8, 0);
        due.is("just 10", lights.first(), -1);
        lights.gap(11);
        due.is("less than 11", lights.first(), 7);
        lights.gap(0);
        due.is("gap 0", lights.first(), -1);
        lights.mark(2, 7, 0, 0, 0);
        due.is("at one place, gap 0", lights.first(), -1);
        lights.gap(1);
        due.is("at one place, gap 1", lights.first(), 7);
        lights = new SkyLights();
        lights.mark(0, 0, 0, 0, 0);
        lights.mark(9, 0, 0, 0, 9);
        due.is("tick 0", lights.first(), 0);
        lights = new SkyLights();
        lights.mark(0, 20, 7, 7, 190);
        lights.mark(1, 20, 7, 7, 200);
        due.is("10 higher", lights.first(), -1);
        lights.gap(11);
        due.is("10 higher, gap 11", lights.first(), 20);
        lights = new SkyLights();
        lights.mark(8, 999, 0, 0, 100);
        lights.mark(9, 999, 0, 9, 100);
        due.is("tick 999", lights.first(), 999);
    }

    private static void clashesBehindATick() {
        SkyLights lights = new SkyLights();
        lights.mark(4, 3, 0, 0, 0);
        lights.mark(4, 4, 100, 0, 0);
        lights.mark(7, 3, 100, 0, 0);
        lights.mark(7, 4, 0, 0, 0);
        due.is("through one another", lights.first(), 3);
        due.is("4", lights.who(0), 4);
        due.is("7", lights.who(1), 7);
        // They come by one another just 10 far, in the middle of the tick.
        lights = new SkyLights();
        lights.mark(0, 3, -50, 0, 0);
        lights.mark(0, 4, 50, 0, 0);
        lights.mark(1, 3, 50, 10, 0);
        lights.mark(1, 4, -50, 10, 0);
        due.is("just 10", lights.first(), -1);
        lights.gap(11);
        due.is("less than 11", lights.first(), 3);
        // Just at the next tick the one of them is near: that is behind the tick ahead, too.
        lights = new SkyLights();
        lights.mark(0, 3, 0, 0, 0);
        lights.mark(0, 4, 0, 0, 0);
        lights.mark(1, 3, 100, 0, 0);
        lights.mark(1, 4, 9, 0, 0);
        due.is("on the way to the next tick", lights.first(), 3);
        lights.gap(9);
        due.is("just 9", lights.first(), -1);
        // The one goes up, the other down: they part, or come from afar.
        lights = new SkyLights();
        lights.mark(0, 3, 0, 0, 100);
        lights.mark(1, 3, 0, 0, 110);
        lights.mark(0, 4, 0, 0, 0);
        lights.mark(1, 4, 0, 0, 200);
        due.is("they part", lights.first(), -1);
        lights.mark(0, 5, 0, 0, 90);
        lights.mark(1, 5, 0, 0, 100);
        due.is("they come to 10", lights.first(), -1);
        lights.mark(0, 6, 0, 0, 100);
        lights.mark(1, 6, 0, 0, 90);
        due.is("they change heights", lights.first(), 5);
        lights = new SkyLights();
        lights.mark(0, 3, 0, 0, 100);
        lights.mark(1, 3, 0, 0, 109);
        lights.mark(0, 4, 0, 0, 0);
        lights.mark(1, 4, 0, 0, 200);
        due.is("they part from 9", lights.first(), 3);
        lights = new SkyLights();
        lights.gap(3);
        lights.mark(0, 3, 0, 0, 0);
        lights.mark(1, 3, 1, 2, 2);
        lights.mark(0, 4, 0, 0, 0);
        lights.mark(1, 4, 0, 2, 2);
        due.is("just 3 at first, nearer then", lights.first(), 3);
        // They go as one, 10 apart: a step of none.
        lights = new SkyLights();
        lights.mark(0, 3, 0, 0, 0);
        lights.mark(0, 4, 80, 0, 9);
        lights.mark(1, 3, 0, 10, 0);
        lights.mark(1, 4, 80, 10, 9);
        due.is("as one", lights.first(), -1);
        lights.gap(11);
        due.is("as one, gap 11", lights.first(), 3);
    }

    private static void momentsAlone() {
        SkyLights lights = new SkyLights();
        lights.mark(0, 3, -100, 0, 0);
        lights.mark(0, 4, 100, 0, 0);
        lights.mark(1, 3, 0, 0, 0);
        due.is("1 is there at tick 3 alone", lights.first(), -1);
        lights.mark(2, 4, 0, 0, 0);
        due.is("2 is there at tick 4 alone", lights.first(), -1);
        lights.mark(1, 4, 0, 50, 0);
        due.is("1 goes on", lights.first(), -1);
        lights.mark(3, 3, 0, 10, 0);
        lights.mark(3, 4, 0, -10, 0);
        due.is("3 is in the way", lights.first(), 3);
        due.is("0", lights.who(0), 0);
        due.is("3", lights.who(1), 3);
        lights = new SkyLights();
        lights.mark(0, 3, -100, 0, 0);
        lights.mark(0, 4, 100, 0, 0);
        lights.mark(2, 4, 91, 0, 0);
        due.is("2 is where 0 comes to", lights.first(), 4);
        lights = new SkyLights();
        lights.mark(0, 3, -100, 0, 0);
        lights.mark(0, 4, 100, 0, 0);
        lights.mark(2, 3, -91, 0, 0);
        lights.mark(2, 5, -91, 0, 0);
        due.is("2 is where 0 comes from", lights.first(), 3);
    }

    private static void gapsInTheMarks() {
        SkyLights lights = new SkyLights();
        lights.mark(0, 3, -100, 0, 0);
        lights.mark(0, 5, 100, 0, 0);
        lights.mark(1, 3, 100, 0, 0);
        lights.mark(1, 5, -100, 0, 0);
        due.is("nobody is there between", lights.first(), -1);
        lights.mark(0, 6, -100, 0, 0);
        due.is("0 goes on alone", lights.first(), -1);
        lights.mark(1, 6, 100, 0, 0);
        due.is("both go on", lights.first(), 5);
        lights = new SkyLights();
        for (int tick = 0; tick < 10; tick++) {
            lights.mark(0, tick, 0, 0, 0);
            lights.mark(1, 2 * tick, 20 - tick, 0, 0);
        }
        due.is("at tick 8 it is 16 far, at 18 the other one is away", lights.first(), -1);
        lights.gap(17);
        due.is("gap 17", lights.first(), 8);
    }

    private static void theZone() {
        SkyLights lights = new SkyLights();
        lights.mark(6, 3, 0, 0, 200);
        lights.mark(6, 4, 100, 0, 0);
        lights.mark(6, 6, 0, 100, 0);
        due.is("no zone", lights.first(), -1);
        lights.zone(50, 10, 10);
        due.is("just 10", lights.first(), -1);
        lights.zone(50, 10, 11);
        due.is("on the way", lights.first(), 3);
        due.is("6", lights.who(0), 6);
        due.is("the zone", lights.who(1), -1);
        lights.zone(0, 100, 1);
        due.is("at the last mark", lights.first(), 6);
        lights.mark(6, 7, 0, 20, 90);
        lights.zone(10, 50, 10);
        due.is("just 10 from the way across", lights.first(), -1);
        lights.zone(10, 50, 11);
        due.is("the way across", lights.first(), 6);
        lights.zone(50, 50, 20);
        due.is("between 4 and 6 it is not there", lights.first(), -1);
        lights.zone(-10, 0, 11);
        due.is("at the first mark", lights.first(), 3);
        lights.zone(110, 0, 11);
        due.is("at the end of a way, which is behind 3, too", lights.first(), 3);
        lights.zone(110, 0, 10);
        due.is("just 10 from it", lights.first(), -1);
    }

    private static void whoItIs() {
        SkyLights lights = new SkyLights();
        // Told in another order than that of their numbers.
        lights.mark(9, 5, 0, 0, 0);
        lights.mark(8, 5, 0, 0, 0);
        due.is("tick 5", lights.first(), 5);
        due.is("8", lights.who(0), 8);
        due.is("9", lights.who(1), 9);
        lights.mark(5, 5, 100, 0, 0);
        lights.mark(4, 5, 100, 0, 5);
        lights.mark(6, 5, 100, 0, 0);
        lights.first();
        due.is("the least first one", lights.who(0), 4);
        due.is("the least second one", lights.who(1), 5);
        lights.zone(100, 0, 5);
        lights.first();
        due.is("with the zone", lights.who(0), 4);
        due.is("the zone first", lights.who(1), -1);
        lights.zone(0, 0, 5);
        lights.first();
        due.is("8 in the zone, but 4 is less", lights.who(0), 4);
        due.is("with 5", lights.who(1), 5);
        lights.mark(0, 5, 0, 0, 100);
        lights.first();
        due.is("0 in the zone", lights.who(0), 0);
        due.is("the zone", lights.who(1), -1);
        // Behind a tick counts as much as at it.
        lights = new SkyLights();
        lights.mark(2, 5, 0, 0, 0);
        lights.mark(3, 5, 0, 0, 0);
        lights.mark(0, 5, 100, 0, 0);
        lights.mark(0, 6, 0, 100, 0);
        lights.mark(1, 5, 0, 100, 0);
        lights.mark(1, 6, 100, 0, 0);
        due.is("tick 5", lights.first(), 5);
        due.is("0", lights.who(0), 0);
        due.is("1", lights.who(1), 1);
        lights.mark(9, 4, 0, 0, 0);
        lights.mark(7, 4, 0, 0, 0);
        due.is("a lesser tick", lights.first(), 4);
        due.is("7", lights.who(0), 7);
        due.is("9", lights.who(1), 9);
    }

    private static void whoIsAskedWrongly() {
        SkyLights lights = new SkyLights();
        lights.mark(4, 5, 0, 0, 0);
        lights.mark(5, 5, 0, 0, 0);
        due.is("nobody is asked for yet", lights.who(0), -1);
        lights.first();
        for (int what : new int[] {-1, 2, LEAST, MOST}) {
            due.is("who(" + what + ")", lights.who(what), -1);
        }
    }

    private static void theLatestThatToldATick() {
        SkyLights lights = new SkyLights();
        lights.mark(4, 5, 0, 0, 0);
        lights.mark(5, 5, 9, 0, 0);
        due.is("tick 5", lights.first(), 5);
        lights.gap(0);
        due.is("none", lights.first(), -1);
        due.is("still 4", lights.who(0), 4);
        due.is("still 5", lights.who(1), 5);
        lights.wipe();
        due.is("still 4", lights.who(0), 4);
        lights.mark(1, 0, 50, 50, 0);
        lights.zone(50, 50, 5);
        due.is("who() does not look anew", lights.who(0), 4);
        due.is("tick 0", lights.first(), 0);
        due.is("1", lights.who(0), 1);
        due.is("the zone", lights.who(1), -1);
    }

    private static void wipes() {
        SkyLights lights = new SkyLights();
        due.is("none", lights.wipe(), 0);
        lights.mark(0, 500, 0, 0, 0);
        lights.mark(0, 501, 0, 0, 0);
        lights.mark(1, 500, 0, 0, 0);
        due.is("three", lights.wipe(), 3);
        due.is("marks", lights.count(3), 0);
        due.is("no clash", lights.first(), -1);
        due.is("ticks begin again", lights.mark(0, 0, 0, 0, 0), 1);
        due.is("and of 1", lights.mark(1, 1, 0, 0, 0), 2);
        due.is("not at one tick", lights.first(), -1);
        due.is("two", lights.wipe(), 2);
        lights.mark(3, 0, 0, 0, 0);
        lights.mark(4, 1, 0, 0, 0);
        due.is("those that are gone are not there", lights.first(), -1);
    }

    private static void counts() {
        SkyLights lights = new SkyLights();
        lights.flyer(0, 0, 0);
        lights.flyer(50, 0, 0);
        Tapes.figure(lights, "0,0,0:0;50,0,0:0");
        Tapes.figure(lights, "0,0,0:0");
        Tapes.figure(lights, "0,0,9:0");
        Tapes.feed(lights, "1,2,3:4;5,");
        lights.scene(0, 1, 1, 1);
        for (int i = 0; i < 5; i++) {
            lights.mark(i, 1, 0, 0, 0);
        }
        lights.gap(77);
        lights.margin(777);
        int[] counts = {2, 3, 1, 5, 10, 77, 777};
        for (int what = 0; what < counts.length; what++) {
            due.is("count(" + what + ")", lights.count(what), counts[what]);
        }
        for (int what : new int[] {-1, 7, LEAST, MOST}) {
            due.is("count(" + what + ")", lights.count(what), -1);
        }
    }
}
