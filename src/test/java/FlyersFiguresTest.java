/** Promises 1 to 8: a new object, flyers, the tape, figures, the gap and the zone. */
public final class FlyersFiguresTest {
    private static final Due due = new Due("FlyersFiguresTest");
    private static final int LEAST = Integer.MIN_VALUE;
    private static final int MOST = Integer.MAX_VALUE;

    public static void main(String[] args) {
        newObject();
        flyers();
        flyersAreRefused();
        feeds();
        figuresAreRead();
        faults();
        figuresAreFull();
        points();
        loose();
        spreads();
        gaps();
        zones();
        due.end();
    }

    private static void newObject() {
        SkyLights lights = new SkyLights();
        int[] counts = {0, 0, 0, 0, 0, 10, 50};
        for (int what = 0; what < counts.length; what++) {
            due.is("new: count(" + what + ")", lights.count(what), counts[what]);
        }
        due.is("new: goes", lights.goes(0), -1);
        due.is("new: clean", lights.clean(), -3);
        due.is("new: part", lights.part(), -3);
        due.is("new: length", lights.length(), 0);
        due.is("new: last", lights.last(), 0);
        due.is("new: unclean", lights.unclean(), 0);
        due.is("new: first", lights.first(), -1);
        due.is("new: who", lights.who(0), -1);
        due.is("new: who", lights.who(1), -1);
        due.is("new: point", lights.point(0, -1, 0), -1000);
        lights.flyer(0, 0, 0);
        lights.pass(-1, -1, 1);
        due.is("new: no zone", lights.enters(0), 0);
    }

    private static void flyers() {
        SkyLights lights = new SkyLights();
        for (int i = 0; i < 10; i++) {
            due.is("flyer " + i, lights.flyer(i * 40 - 200, 200 - i * 40, i * 11111), i);
        }
        due.is("flyers", lights.count(0), 10);
        due.is("an eleventh flyer", lights.flyer(0, 0, 0), -4);
        due.is("bad ahead of full", lights.flyer(201, 0, 0), -2);
        due.is("flyers behind full", lights.count(0), 10);
        due.is("charge of flyer 9", lights.left(9), 99999);
        Tapes.figure(lights, "-200,200,0:0;-160,160,0:0;-120,120,0:0;-80,80,0:0;-40,40,0:0;"
                + "0,0,0:0;40,-40,0:0;80,-80,0:0;120,-120,0:0;160,-160,0:0");
        due.is("pads are where they were told", lights.pass(-1, 0, 5), 0);
        lights.scene(0, 1, 0, 0);
        due.is("state ahead of full", lights.flyer(0, 0, 0), -3);
        due.is("bad ahead of state", lights.flyer(0, -201, 0), -2);
        lights.cut();
        due.is("full again", lights.flyer(0, 0, 0), -4);
    }

    private static void flyersAreRefused() {
        SkyLights lights = new SkyLights();
        int[][] bad = {{-201, 0, 0}, {201, 0, 0}, {0, -201, 0}, {0, 201, 0}, {0, 0, -1}, {0, 0, 100001},
            {LEAST, 0, 0}, {MOST, 0, 0}, {0, LEAST, 0}, {0, MOST, 0}, {0, 0, LEAST}, {0, 0, MOST}};
        for (int[] n : bad) {
            due.is("flyer(" + n[0] + ", " + n[1] + ", " + n[2] + ")", lights.flyer(n[0], n[1], n[2]), -2);
        }
        due.is("refused flyers", lights.count(0), 0);
        due.is("the least", lights.flyer(-200, -200, 0), 0);
        due.is("the most", lights.flyer(200, 200, 100000), 1);
        due.is("charge 0", lights.left(0), 0);
        due.is("charge 100000", lights.left(1), 100000);
        Tapes.figure(lights, "1,1,1:1;2,2,2:2");
        lights.scene(0, 3, 0, 0);
        due.is("a flyer in a show", lights.flyer(0, 0, 0), -3);
        due.is("flyers of the show", lights.count(0), 2);
        lights.cut();
        due.is("a flyer behind cut", lights.flyer(0, 0, 0), 2);
    }

    private static void feeds() {
        SkyLights lights = new SkyLights();
        due.is("feed n 0", lights.feed(0, 0), -2);
        due.is("feed n 9", lights.feed(0, 9), -2);
        due.is("feed n least", lights.feed(0, LEAST), -2);
        due.is("feed n most", lights.feed(0, MOST), -2);
        due.is("nothing fed", lights.count(4), 0);
        // Bytes above the n lowest ones do not come.
        due.is("one byte", lights.feed(0x7f7f7f7f7f7f7f31L, 1), 1);
        due.is("two bytes", lights.feed(0xffffffffffff2c2dL, 2), 3);
        due.is("eight bytes", lights.feed(Tapes.word("20,3:4;9"), 8), 11);
        due.is("five bytes", lights.feed(Tapes.word(",8,7:"), 5), 16);
        due.is("the sixth", lights.feed('6', 1), 17);
        due.is("figure", lights.figure(), 0);
        int[] told = {1, -20, 3, 4, 9, 8, 7, 6};
        for (int i = 0; i < 8; i++) {
            due.is("point " + i / 4 + " what " + i % 4, lights.point(0, i / 4, i % 4), told[i]);
        }
        for (int i = 1; i <= 37; i++) {
            due.is("feed " + i, lights.feed(-1L, 8), 8 * i);
        }
        due.is("beyond 300", lights.feed(0, 5), -4);
        due.is("beyond 300 by much", lights.feed(0, 8), -4);
        due.is("bad ahead of full", lights.feed(0, 9), -2);
        due.is("still 296", lights.count(4), 296);
        due.is("just 300", lights.feed(0, 4), 300);
        due.is("one more", lights.feed(0, 1), -4);
        due.is("a fault of a full tape", lights.figure(), -10);
        due.is("empty behind a fault", lights.count(4), 0);
        due.is("fed again", lights.feed(0, 8), 8);
    }

    private static void figuresAreRead() {
        String ten = "0,0,0:0;1,0,0:0;2,0,0:0;3,0,0:0;4,0,0:0;5,0,0:0;6,0,0:0;7,0,0:0;8,0,0:0;9,0,0:9";
        String[] texts = {"0,0,0:0", "-200,-200,0:9", "200,200,200:1", "-1,-10,10:5;-99,99,100:0", "7,7,7:7;7,7,7:7", ten};
        SkyLights lights = new SkyLights();
        for (int i = 0; i < texts.length; i++) {
            due.is("feed " + texts[i], Tapes.feed(lights, texts[i]), texts[i].length());
            due.is("figure " + texts[i], lights.figure(), i);
            due.is("tape behind " + texts[i], lights.count(4), 0);
            due.is("figures", lights.count(1), i + 1);
        }
        due.is("ten points", lights.point(5, -1, 0), 10);
        due.is("the tenth", lights.point(5, 9, 3), 9);
        due.is("-200", lights.point(1, 0, 0), -200);
        due.is("-10", lights.point(3, 0, 1), -10);
        due.is("100", lights.point(3, 1, 2), 100);
    }

    private static void faults() {
        String ten = "0,0,0:0;1,0,0:0;2,0,0:0;3,0,0:0;4,0,0:0;5,0,0:0;6,0,0:0;7,0,0:0;8,0,0:0;9,0,0:9";
        Object[][] faults = {
            {"1", 1}, {"-", 1}, {"-0", 1}, {"-01,", 1}, {"00", 1}, {"01,1,1:1", 1}, {"--1", 1}, {"+1", 0},
            {" 1,1,1:1", 0}, {"1 ,1,1:1", 1}, {",", 0}, {"1;", 1}, {"1:", 1}, {"1,", 2}, {"1,,", 2},
            {"1,1:", 3}, {"1,1,", 4}, {"1,1,1", 5}, {"1,1,1,", 5}, {"1,1,1;", 5}, {"1,1,1:", 6},
            {"1,1,1:a", 6}, {"1,1,1:-", 6}, {"1,1,1:12", 7}, {"1,1,1:1 ", 7}, {"1,1,1:1,", 7}, {"1,1,1:1;", 8},
            {"1,1,1:1;;", 8}, {"1,1,1:1;2", 9}, {"1,1,1:1;02", 9}, {"201", 2}, {"-201", 3}, {"200,201", 6},
            {"300", 2}, {"999", 2}, {"2000", 3}, {"-2000", 4}, {"1000", 3}, {"20,20,201:1", 8}, {"20,20,300:1", 8},
            {"1,1,-1:1", 4}, {"1,1,-", 4}, {"1,1,00:1", 5}, {"1,1,01:1", 5}, {"1,-0,1:1", 3}, {"1,1,1000:1", 7},
            {"\0", 0}, {"1\u00ff", 1}, {"1,1,1:1\n", 7}, {"1/", 1}, {"1,1,1:/", 6}, {"1,1,1::", 6},
            {ten + ";", 79}, {ten + ";1,1,1:1", 79}, {ten + "0", 79}, {"a" + ten, 0}, {"210", 2}, {"199,2001", 7},
            {"1-5,3:2", 1}, {"1,1-5:2", 3}, {"1,13:2", 4}, {"1,1,13", 6}, {"1,1,1:1;1,1,1:1;-", 17},
        };
        SkyLights lights = new SkyLights();
        due.is("figure of an empty tape", lights.figure(), -10);
        for (Object[] fault : faults) {
            Tapes.feed(lights, (String) fault[0]);
            due.is("figure " + fault[0], lights.figure(), -10 - (Integer) fault[1]);
            due.is("tape behind a fault", lights.count(4), 0);
        }
        due.is("no figures", lights.count(1), 0);
        due.is("a figure behind faults", Tapes.figure(lights, "5,6,7:8"), 0);
        due.is("its points", lights.point(0, -1, 0), 1);
    }

    private static void figuresAreFull() {
        SkyLights lights = new SkyLights();
        for (int i = 0; i < 8; i++) {
            due.is("figure " + i, Tapes.figure(lights, i + ",0,0:0"), i);
        }
        Tapes.feed(lights, "1,1,1:1x");
        due.is("a ninth figure", lights.figure(), -4);
        due.is("the tape stays", lights.count(4), 8);
        due.is("figures", lights.count(1), 8);
        due.is("full with a tape that is no figure", lights.figure(), -4);
        due.is("figure 7", lights.point(7, 0, 0), 7);
        due.is("figure 0", lights.point(0, 0, 0), 0);
        due.is("figure 8", lights.point(8, 0, 0), -1000);
    }

    private static void points() {
        SkyLights lights = new SkyLights();
        Tapes.figure(lights, "1,2,3:4;-5,-6,7:8");
        int[][] none = {{-1, 0, 0}, {1, 0, 0}, {0, 2, 0}, {0, -2, 0}, {0, 0, -1}, {0, 0, 4}, {0, -1, 2}, {0, -1, -1},
            {0, -1, 3}, {LEAST, 0, 0}, {MOST, 0, 0}, {0, LEAST, 0}, {0, MOST, 0}, {0, 0, LEAST}, {0, 0, MOST},
            {1, -1, 0}, {-1, -1, 0}};
        for (int[] n : none) {
            due.is("point(" + n[0] + ", " + n[1] + ", " + n[2] + ")", lights.point(n[0], n[1], n[2]), -1000);
        }
        int[] told = {1, 2, 3, 4, -5, -6, 7, 8};
        for (int i = 0; i < 8; i++) {
            due.is("point " + i / 4 + " what " + i % 4, lights.point(0, i / 4, i % 4), told[i]);
        }
        due.is("many", lights.point(0, -1, 0), 2);
    }

    private static void loose() {
        SkyLights lights = new SkyLights();
        Tapes.figure(lights, "0,0,0:0;6,8,0:0");
        Tapes.figure(lights, "0,0,0:0");
        Tapes.figure(lights, "5,5,5:0;5,5,5:0");
        Tapes.figure(lights, "100,0,0:0;0,0,0:0;0,0,9:0");
        due.is("just 10 apart", lights.point(0, -1, 1), 1);
        due.is("one point", lights.point(1, -1, 1), 1);
        due.is("at one place", lights.point(2, -1, 1), 0);
        due.is("9 apart", lights.point(3, -1, 1), 0);
        lights.gap(9);
        due.is("9 apart, gap 9", lights.point(3, -1, 1), 1);
        lights.gap(11);
        due.is("10 apart, gap 11", lights.point(0, -1, 1), 0);
        lights.gap(0);
        due.is("at one place, gap 0", lights.point(2, -1, 1), 1);
        lights.gap(100);
        due.is("one point, gap 100", lights.point(1, -1, 1), 1);
    }

    private static void spreads() {
        SkyLights lights = new SkyLights();
        Tapes.figure(lights, "0,0,0:0;100,0,0:0;100,2,3:0");
        Tapes.figure(lights, "0,0,0:0");
        Tapes.figure(lights, "5,5,5:0;1,1,1:1;5,5,5:0");
        Tapes.figure(lights, "-200,-200,0:0;200,200,200:0");
        due.is("13", lights.spread(0), 13);
        due.is("one point", lights.spread(1), -1);
        due.is("at one place", lights.spread(2), 0);
        due.is("the farthest", lights.spread(3), 360000);
        for (int none : new int[] {-1, 4, 8, LEAST, MOST}) {
            due.is("spread " + none, lights.spread(none), -1);
        }
        lights.gap(0);
        due.is("the gap does not matter", lights.spread(0), 13);
    }

    private static void gaps() {
        SkyLights lights = new SkyLights();
        due.is("gap at first", lights.gap(0), 10);
        due.is("gap 0", lights.gap(100), 0);
        for (int bad : new int[] {-1, 101, LEAST, MOST}) {
            due.is("gap " + bad, lights.gap(bad), -2);
        }
        due.is("gap 100 stays", lights.count(5), 100);
        due.is("gap 100", lights.gap(7), 100);
        due.is("gap 7", lights.count(5), 7);
    }

    private static void zones() {
        SkyLights lights = new SkyLights();
        lights.flyer(10, 0, 0);
        lights.pass(-1, -1, 1);
        due.is("zone", lights.zone(0, 0, 11), 0);
        due.is("in it", lights.enters(0), 1);
        int[][] bad = {{-201, 0, 0}, {201, 0, 0}, {0, -201, 0}, {0, 201, 0}, {0, 0, -1}, {0, 0, 201},
            {LEAST, 0, 0}, {MOST, 0, 0}, {0, LEAST, 0}, {0, MOST, 0}, {0, 0, LEAST}, {0, 0, MOST}};
        for (int[] n : bad) {
            due.is("zone(" + n[0] + ", " + n[1] + ", " + n[2] + ")", lights.zone(n[0], n[1], n[2]), -2);
        }
        due.is("it stays", lights.enters(0), 1);
        due.is("just so far", lights.zone(0, 0, 10), 0);
        due.is("not in it", lights.enters(0), 0);
        due.is("the most", lights.zone(200, 200, 200), 0);
        due.is("the least", lights.zone(-200, -200, 0), 0);
        due.is("radius 0", lights.zone(10, 0, 0), 0);
        due.is("radius 0 is no zone", lights.enters(0), 0);
        due.is("radius 1", lights.zone(10, 0, 1), 0);
        due.is("in the middle", lights.enters(0), 1);
    }
}
