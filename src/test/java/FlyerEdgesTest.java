/** The boundaries that the Terms 1 and 5 and the promises 1 to 8 name, each from either side. */
public final class FlyerEdgesTest {
    private static final Due due = new Due("FlyerEdgesTest");
    private static final int NONE = SkyLights.NONE;
    private static final int BAD = SkyLights.BAD;
    private static final int STATE = SkyLights.STATE;
    private static final int FULL = SkyLights.FULL;
    private static final int NONE_TOLD = -1000;
    private static final String TEN_LONGEST = "-200,-200,200:9" + ";-200,-200,200:9".repeat(9);
    private static final String TEN_SHORTEST = "0,0,0:0" + ";0,0,0:0".repeat(9);

    public static void main(String[] args) {
        newObject();
        newObjectsAreApart();
        flyerX();
        flyerY();
        flyerCharge();
        flyerTenth();
        flyerInAShow();
        flyerFirstRefusal();
        feedNumber();
        feedEveryNumber();
        feedEndsOfLong();
        feedJustFull();
        feedFirstRefusal();
        figureEmpty();
        figureFull();
        figureTapeIsEmptyThen();
        figureNumbersAcross();
        figureNumbersUp();
        figureWorth();
        figureEndsTooEarly();
        figureEveryByte();
        figureZerosAhead();
        figureDigits();
        figurePoints();
        figureLongest();
        pointEdges();
        pointOfAll();
        spreadEdges();
        gapEdges();
        gapExactly();
        gapNoughtAndMost();
        zoneEdges();
        zoneRadius();
        due.end();
    }

    private static Run run(String name) {
        return new Run(due, name);
    }

    private static Run flyers(String name, int many) {
        Run run = run(name);
        for (int i = 0; i < many; i++) {
            run.is("flyer(" + (i * 40 - 180) + ", 0, " + i + ")", i);
        }
        return run;
    }

    private static Run figures(String name, int many) {
        Run run = run(name);
        for (int i = 0; i < many; i++) {
            run.is("figure(" + i + ",0,0:" + i + ")", i);
        }
        return run;
    }

    private static void newObject() {
        int[] counts = {0, 0, 0, 0, 0, 10, 50, NONE};
        Run run = run("a new object");
        for (int what = 0; what < counts.length; what++) {
            run.is("count(" + what + ")", counts[what]);
        }
        run.refuses("point(0, -1, 0)", NONE_TOLD).refusesAll(NONE, "spread(0)", "pass(-1, 0, 1)", "pass(0, -1, 1)");
        run.refuses("pass(-1, -1, 1)", STATE).refusesAll(NONE, "goes(0)", "delay(0, 0)", "clash(0, 1)", "enters(0)");
        run.refusesAll(STATE, "clean()", "part()").refuses("scene(0, 1, 0, 0)", NONE);
        run.refusesAll(NONE, "stands(0, 0)", "lands(0)", "colour(0)", "fails(0, 0, 0)", "fails(0, 0, 1)");
        run.refuses("left(0)", -1000000).refuses("cut()", STATE);
        run.is("length()", 0).is("last()", 0).is("unclean()", 0);
        run.is("first()", NONE).is("who(0)", NONE).is("who(1)", NONE).is("wipe()", 0);
        run.is("gap(10)", 10).is("margin(50)", 50).is("figure()", -10);
        // No zone: neither for a pass nor for a mark.
        run.is("flyer(0, 0, 0)", 0).is("pass(-1, -1, 1)", 0).is("enters(0)", 0).is("clean()", 1);
        run.is("mark(0, 0, 0, 0, 0)", 1).is("first()", NONE);
    }

    private static void newObjectsAreApart() {
        SkyLights one = new SkyLights();
        Calls.ask(one, "flyer(7, 7, 70)");
        Calls.ask(one, "figure(7,7,7:7)");
        Calls.ask(one, "scene(0, 7, 7, 7)");
        Calls.ask(one, "pass(0, 0, 7)");
        Calls.ask(one, "tape(7,7)");
        Calls.ask(one, "gap(77)");
        Calls.ask(one, "margin(77)");
        Calls.ask(one, "zone(7, 7, 7)");
        Calls.ask(one, "mark(7, 7, 7, 7, 7)");
        due.is("first of the first one", one.first(), 7);
        due.is("a second new object is as a third one, whatever the first one has",
                Answers.of(new SkyLights()).equals(Answers.of(new SkyLights())) ? 1 : 0, 1);
        SkyLights other = new SkyLights();
        int[] counts = {0, 0, 0, 0, 0, 10, 50};
        for (int what = 0; what < counts.length; what++) {
            due.is("count(" + what + ") of another object", other.count(what), counts[what]);
        }
        due.is("who(0) of another object", other.who(0), NONE);
        due.is("goes(0) of another object", other.goes(0), NONE);
        other.gap(1);
        other.wipe();
        due.is("gap of the first one", one.gap(77), 77);
        due.is("marks of the first one", one.count(3), 1);
    }

    private static void flyerX() {
        run("flyer, x").is("flyer(-200, 0, 5)", 0).is("flyer(200, 0, 5)", 1).is("figure(-200,0,0:0;200,0,0:0)", 0)
                .is("pass(-1, 0, 1)", 0).is("goes(0)", 0).is("goes(1)", 1)
                .refusesAll(BAD, "flyer(-201, 0, 5)", "flyer(201, 0, 5)", "flyer(least, 0, 5)", "flyer(most, 0, 5)")
                .is("count(0)", 2).is("flyer(-199, 0, 5)", 2);
    }

    private static void flyerY() {
        run("flyer, y").is("flyer(0, -200, 5)", 0).is("flyer(0, 200, 5)", 1).is("figure(0,-200,0:0;0,200,0:0)", 0)
                .is("pass(-1, 0, 1)", 0).is("goes(0)", 0).is("goes(1)", 1)
                .refusesAll(BAD, "flyer(0, -201, 5)", "flyer(0, 201, 5)", "flyer(0, least, 5)", "flyer(0, most, 5)")
                .is("count(0)", 2).is("flyer(0, 199, 5)", 2);
    }

    private static void flyerCharge() {
        run("flyer, charge").is("flyer(0, 0, 0)", 0).is("flyer(0, 0, 100000)", 1).is("left(0)", 0)
                .is("left(1)", 100000)
                .refusesAll(BAD, "flyer(0, 0, -1)", "flyer(0, 0, 100001)", "flyer(0, 0, least)", "flyer(0, 0, most)")
                .is("count(0)", 2).is("flyer(0, 0, 99999)", 2).is("left(2)", 99999).is("last()", 6);
    }

    private static void flyerTenth() {
        Run run = flyers("the tenth flyer", 9).is("count(0)", 9).is("flyer(180, 0, 99)", 9).is("count(0)", 10);
        run.refusesAll(FULL, "flyer(0, 0, 0)", "flyer(-200, 200, 100000)").is("count(0)", 10);
        run.is("left(9)", 99).refuses("left(10)", -1000000).is("last()", 1 << 9);
        run.is("pass(-1, -1, 1)", 0).is("goes(9)", 9).refuses("goes(10)", NONE);
    }

    private static void flyerInAShow() {
        Run run = flyers("a flyer in a show", 1).is("figure(0,0,0:0)", 0).is("figure(0,0,0:0;9,9,9:9)", 1);
        run.is("flyer(0, 50, 7)", 1).is("scene(1, 1, 0, 0)", 0);
        run.refusesAll(STATE, "flyer(0, 0, 0)", "flyer(-200, -200, 100000)").is("count(0)", 2);
        run.is("cut()", 0).is("flyer(0, 0, 8)", 2).is("left(2)", 8);
    }

    private static void flyerFirstRefusal() {
        Run run = flyers("flyer, the first refusal", 10);
        run.refusesAll(BAD, "flyer(201, 0, 0)", "flyer(0, -201, 0)", "flyer(0, 0, 100001)").refuses("flyer(0, 0, 0)", FULL);
        run.is("figure(" + TEN_SHORTEST + ")", 0).is("scene(0, 1, 0, 0)", 0);
        run.refusesAll(BAD, "flyer(-201, 0, 0)", "flyer(0, 201, 0)", "flyer(0, 0, -1)").refuses("flyer(0, 0, 0)", STATE);
        run.is("cut()", 0).refuses("flyer(0, 0, 0)", FULL);
        flyers("flyer, bad ahead of state", 1).is("figure(0,0,0:0)", 0).is("scene(0, 1, 0, 0)", 0)
                .refusesAll(BAD, "flyer(201, 0, 0)", "flyer(0, -201, 0)", "flyer(0, 0, -1)").is("count(0)", 1);
    }

    private static void feedNumber() {
        run("feed, n").is("tape(1,2,)", 4)
                .refusesAll(BAD, "feed(51, 0)", "feed(51, 9)", "feed(51, -1)", "feed(51, least)", "feed(51, most)")
                .is("count(4)", 4).is("feed(51, 1)", 5).is("count(4)", 5).is("tape(:4;-5,6,)", 13).is("tape(7:8)", 16)
                .is("figure()", 0).is("point(0, 0, 2)", 3).is("point(0, 1, 0)", -5);
        run("feed, n 8").is("feed(" + Tapes.word("-1,2,3:4") + ", 8)", 8).is("count(4)", 8).is("figure()", 0)
                .is("point(0, 0, 0)", -1).is("point(0, 0, 3)", 4);
    }

    /** Of every number of bytes just the lowest come, the highest first. */
    private static void feedEveryNumber() {
        String text = "0,0,0:1;";
        for (int n = 1; n <= 8; n++) {
            String whole = "5,6,70:8".substring(8 - n);
            String ahead = "5,6,70:8".substring(0, 8 - n);
            Run run = run("feed " + n + " bytes").is("tape(" + text + ahead + ")", ahead.isEmpty() ? 8 : 16 - n);
            // The bytes above the lowest n ones would spoil the text.
            long spoilt = n == 8 ? 0 : -1L << (8 * n);
            run.is("feed(" + (spoilt | Tapes.word(whole)) + ", " + n + ")", 16).is("figure()", 0);
            run.is("point(0, 1, 0)", 5).is("point(0, 1, 1)", 6).is("point(0, 1, 2)", 70).is("point(0, 1, 3)", 8);
        }
    }

    private static void feedEndsOfLong() {
        run("feed, ends of long").is("feed(leastlong, 8)", 8).is("feed(mostlong, 8)", 16).is("feed(-1, 8)", 24)
                .is("feed(0, 8)", 32).is("figure()", -10).is("count(4)", 0)
                .refusesAll(BAD, "feed(leastlong, 9)", "feed(mostlong, 0)", "feed(leastlong, least)", "feed(mostlong, most)");
        // The lowest byte of each.
        run("feed, lowest bytes").is("feed(leastlong, 1)", 1).is("figure()", -10).is("tape(5)", 1)
                .is("feed(mostlong, 1)", 2).is("figure()", -11).is("tape(5)", 1).is("feed(leastlong, 1)", 2).is("figure()", -11);
    }

    private static Run tape(String name, int size) {
        Run run = run(name).is("tape(1,2,3:4)", 7);
        int fed = 7;
        while (fed < size) {
            int n = Math.min(8, size - fed);
            fed += n;
            run.is("feed(" + Tapes.word(";;;;;;;;".substring(0, n)) + ", " + n + ")", fed);
        }
        return run;
    }

    private static void feedJustFull() {
        for (int n = 1; n <= 8; n++) {
            tape("just full by " + n, 300 - n).is("feed(0, " + n + ")", 300).is("count(4)", 300)
                    .refusesAll(FULL, "feed(0, 1)", "feed(0, " + n + ")").is("count(4)", 300);
        }
        for (int n = 2; n <= 8; n++) {
            tape("too many by one of " + n, 301 - n).refuses("feed(0, " + n + ")", FULL).is("count(4)", 301 - n)
                    .is("feed(0, " + (n - 1) + ")", 300).refuses("feed(-1, 1)", FULL);
        }
        tape("a full tape is read", 300).is("figure()", -10 - 8).is("count(4)", 0).is("tape(1,2,3:4)", 7).is("figure()", 0);
        tape("one byte ahead of full", 299).refusesAll(FULL, "feed(0, 2)", "feed(0, 8)").is("feed(0, 1)", 300);
    }

    private static void feedFirstRefusal() {
        tape("feed, bad ahead of full", 300).refusesAll(BAD, "feed(0, 0)", "feed(0, 9)", "feed(0, least)", "feed(0, most)")
                .refuses("feed(0, 8)", FULL).is("count(4)", 300);
    }

    private static void figureEmpty() {
        run("an empty tape").is("figure()", -10).is("count(1)", 0).is("count(4)", 0).is("figure()", -10)
                .is("figure(0,0,0:0)", 0).is("figure()", -10).is("count(1)", 1);
    }

    private static void figureFull() {
        Run run = figures("the eighth figure", 7).is("count(1)", 7).is("figure(7,0,0:7)", 7).is("count(1)", 8);
        run.refuses("figure()", FULL).is("tape(1,1,1:1)", 7).refuses("figure()", FULL).is("count(4)", 7);
        run.is("tape(x)", 8).refuses("figure()", FULL).is("count(4)", 8).is("count(1)", 8).is("point(7, 0, 0)", 7);
        run.refuses("point(8, 0, 0)", NONE_TOLD).is("feed(0, 8)", 16);
        Run full = figures("full, with a full tape", 8);
        for (int fed = 8; fed <= 296; fed += 8) {
            full.is("feed(0, 8)", fed);
        }
        full.is("feed(0, 4)", 300).refuses("figure()", FULL).is("count(4)", 300).refuses("feed(0, 1)", FULL);
        figures("a fault is ahead of nothing but full", 7).is("figure(x)", -10).is("count(1)", 7).is("figure(9,0,0:0)", 7);
    }

    private static void figureTapeIsEmptyThen() {
        run("the tape behind a figure").is("tape(1,2,3:4)", 7).is("figure()", 0).is("count(4)", 0)
                .is("tape(5,6,7:8;)", 8).is("figure()", -18).is("count(4)", 0).is("tape(8,8,8:8)", 7).is("figure()", 1)
                .is("point(0, 0, 0)", 1).is("point(1, 0, 0)", 8).is("count(1)", 2);
        // What a faulty tape told is in no figure.
        run("a fault leaves nothing").is("figure(1,1,1:1)", 0).is("figure(2,2,2:2;3,3,3:x)", -24)
                .is("point(0, -1, 0)", 1).is("point(0, 0, 0)", 1).is("count(1)", 1).is("figure(4,4,4:4)", 1)
                .is("point(1, -1, 0)", 1).is("point(1, 0, 0)", 4).is("point(1, 1, 0)", NONE_TOLD);
    }

    /** x and y: every number of up to four digits, with a sign and without. */
    private static void figureNumbersAcross() {
        for (int n = 0; n <= 1200; n++) {
            int fault = faultOf(n);
            figureIs(n + ",0,0:0", fault, 0, n);
            figureIs("0," + n + ",0:0", fault < 0 ? fault : 2 + fault, 1, n);
            int below = n == 0 ? 1 : fault < 0 ? fault : 1 + fault;
            figureIs("-" + n + ",0,0:0", below, 0, -n);
            figureIs("0,-" + n + ",0:0", below < 0 ? below : 2 + below, 1, -n);
        }
    }

    private static void figureNumbersUp() {
        for (int n = 0; n <= 1200; n++) {
            int fault = faultOf(n);
            figureIs("0,0," + n + ":0", fault < 0 ? fault : 4 + fault, 2, n);
            figureIs("0,0,-" + n + ":0", 4, 2, -n);
        }
    }

    /** Which digit of a number is the one that makes it too great, or -1. */
    private static int faultOf(int n) {
        if (n <= 200) {
            return -1;
        }
        return n / 10 <= 200 && n >= 1000 ? 3 : 2;
    }

    private static void figureIs(String text, int fault, int what, int number) {
        SkyLights lights = new SkyLights();
        due.is("figure(" + text + ")", Tapes.figure(lights, text), fault < 0 ? 0 : -10 - fault);
        due.is("the number of " + text, lights.point(0, 0, what), fault < 0 ? number : NONE_TOLD);
        due.is("the tape behind " + text, lights.count(4), 0);
    }

    private static void figureWorth() {
        for (int sign = 0; sign < 256; sign++) {
            boolean digit = sign >= '0' && sign <= '9';
            figureIs("0,0,0:" + (char) sign, digit ? -1 : 6, 3, sign - '0');
        }
        run("worth of two digits").is("figure(0,0,0:10)", -17).is("figure(0,0,0:00)", -17).is("figure(0,0,0:-1)", -16)
                .is("figure(0,0,0:9)", 0).is("figure(0,0,0:0)", 1);
    }

    /** Each part of a text, from its begin on, is a figure or ends too early. */
    private static void figureEndsTooEarly() {
        String text = "-120,34,56:7;8,-9,100:1;0,0,0:0";
        for (int size = 0; size <= text.length(); size++) {
            boolean whole = size == 12 || size == 23 || size == 31;
            SkyLights lights = new SkyLights();
            due.is("the first " + size + " of " + text, Tapes.figure(lights, text.substring(0, size)), whole ? 0 : -10 - size);
            due.is("figures then", lights.count(1), whole ? 1 : 0);
        }
    }

    /** At each place of a text each byte there is: the text with it goes on, or that place is the fault. */
    private static void figureEveryByte() {
        String text = "-10,200,0:9;5,-1,20:0";
        String digits = "0123456789";
        // What can stand at each place, with what stands ahead of it.
        String[] can = {digits + "-", "123456789", digits + ",", digits + ",", digits + "-", digits + ",", "0,",
            ",", digits, ":", digits, ";", digits + "-", digits + ",", digits + "-", "123456789", digits + ",",
            digits, digits + ":", "0:", digits};
        due.is("places", can.length, text.length());
        for (int place = 0; place < text.length(); place++) {
            for (int sign = 0; sign < 256; sign++) {
                String spoilt = text.substring(0, place) + (char) sign;
                SkyLights lights = new SkyLights();
                boolean goesOn = can[place].indexOf(sign) >= 0;
                boolean whole = place == 10 || place == 20;
                int want = goesOn ? (whole ? 0 : -10 - place - 1) : -10 - place;
                due.is("figure of " + text.substring(0, place) + " and byte " + sign, Tapes.figure(lights, spoilt), want);
            }
        }
    }

    private static void figureZerosAhead() {
        run("zeros").is("figure(00,0,0:0)", -11).is("figure(01,0,0:0)", -11).is("figure(-0,0,0:0)", -11)
                .is("figure(-01,0,0:0)", -11).is("figure(-,0,0:0)", -11).is("figure(0,00,0:0)", -13)
                .is("figure(0,-0,0:0)", -13).is("figure(0,0,00:0)", -15).is("figure(0,0,01:0)", -15)
                .is("figure(0,0,-0:0)", -14).is("figure(100,-100,10:0)", 0).is("figure(0,0,0:0)", 1)
                .is("point(0, 0, 0)", 100).is("point(0, 0, 1)", -100).is("point(0, 0, 2)", 10);
    }

    private static void figureDigits() {
        run("digits").is("figure(1,12,123:0)", 0).is("figure(1000,0,0:0)", -13).is("figure(1234,0,0:0)", -13)
                .is("figure(-1000,0,0:0)", -14).is("figure(2000,0,0:0)", -13).is("figure(999,0,0:0)", -12)
                .is("figure(201,0,0:0)", -12).is("figure(-201,0,0:0)", -13).is("figure(210,0,0:0)", -12)
                .is("figure(300,0,0:0)", -12).is("figure(0,0,201:0)", -16).is("figure(0,0,2000:0)", -17)
                .is("figure( 1,0,0:0)", -10).is("figure(1 ,0,0:0)", -11).is("figure(1, 0,0:0)", -12)
                .is("figure(1,0,0: 0)", -16).is("figure(+1,0,0:0)", -10).is("figure(--1,0,0:0)", -11)
                .is("figure(,0,0:0)", -10).is("figure(0,,0:0)", -12).is("figure(0,0,:0)", -14).is("figure(0,0:0)", -13);
    }

    private static void figurePoints() {
        StringBuilder text = new StringBuilder();
        for (int points = 1; points <= 10; points++) {
            text.append(points > 1 ? ";" : "").append(points * 20).append(",-").append(points * 20).append(",0:").append(points % 10);
            Run run = run(points + " points").is("figure(" + text + ")", 0).is("point(0, -1, 0)", points);
            run.is("point(0, " + (points - 1) + ", 0)", points * 20).is("point(0, 0, 0)", 20);
            run.is("point(0, " + points + ", 0)", NONE_TOLD);
            int ends = text.length();
            run.is("figure(" + text + ";)", points < 10 ? -10 - ends - 1 : -10 - ends);
            run.is("figure(" + text + ";;)", points < 10 ? -10 - ends - 1 : -10 - ends);
            run.is("figure(" + text + ",)", -10 - ends).is("figure(" + text + "5)", -10 - ends);
        }
        run("eleven points").is("figure(" + TEN_SHORTEST + ";0,0,0:0)", -10 - 79).is("count(1)", 0)
                .is("figure(" + TEN_SHORTEST + ")", 0);
    }

    private static void figureLongest() {
        due.is("the longest text of a figure", TEN_LONGEST.length(), 159);
        run("the longest figure").is("figure(" + TEN_LONGEST + ")", 0).is("point(0, -1, 0)", 10).is("point(0, 9, 0)", -200)
                .is("point(0, 9, 2)", 200).is("point(0, 9, 3)", 9).is("figure(" + TEN_LONGEST.substring(0, 158) + ")", -168)
                .is("figure(" + TEN_LONGEST + "0)", -169).is("figure(" + TEN_LONGEST + ";)", -169).is("count(1)", 1);
        run("the greatest fault of a full tape").is("tape(" + TEN_LONGEST + "x".repeat(141) + ")", 300)
                .refuses("feed(0, 1)", FULL).is("figure()", -169).is("count(4)", 0);
    }

    private static void pointEdges() {
        Run run = figures("point", 2).is("figure(-200,200,0:9;200,-200,200:0;1,2,3:4)", 2);
        run.is("point(2, -1, 0)", 3).is("point(2, 0, 0)", -200).is("point(2, 0, 1)", 200).is("point(2, 0, 2)", 0);
        run.is("point(2, 0, 3)", 9).is("point(2, 1, 0)", 200).is("point(2, 1, 1)", -200).is("point(2, 1, 2)", 200);
        run.is("point(2, 1, 3)", 0).is("point(2, 2, 3)", 4).is("point(0, 0, 0)", 0).is("point(1, 0, 0)", 1);
        run.refusesAll(NONE_TOLD, "point(-1, 0, 0)", "point(3, 0, 0)", "point(8, 0, 0)", "point(least, 0, 0)", "point(most, 0, 0)");
        run.refusesAll(NONE_TOLD, "point(2, 3, 0)", "point(2, -2, 0)", "point(2, 10, 0)", "point(2, least, 0)", "point(2, most, 0)");
        run.refusesAll(NONE_TOLD, "point(2, 0, -1)", "point(2, 0, 4)", "point(2, 0, least)", "point(2, 0, most)");
        run.refusesAll(NONE_TOLD, "point(0, 1, 0)", "point(0, 0, 4)", "point(1, 2, 3)");
    }

    private static void pointOfAll() {
        Run run = figures("point -1", 1);
        run.is("point(0, -1, 0)", 1).is("point(0, -1, 1)", 1);
        run.refusesAll(NONE_TOLD, "point(0, -1, 2)", "point(0, -1, 3)", "point(0, -1, -1)", "point(0, -1, least)", "point(0, -1, most)");
        run.refusesAll(NONE_TOLD, "point(-1, -1, 0)", "point(-1, -1, 1)", "point(1, -1, 0)", "point(1, -1, 1)");
        run("no figures").refusesAll(NONE_TOLD, "point(0, -1, 0)", "point(0, -1, 1)", "point(0, 0, 0)", "point(-1, -1, 0)");
    }

    private static void spreadEdges() {
        Run run = run("spread").is("figure(5,5,5:5)", 0).is("figure(5,5,5:5;5,5,5:5)", 1).is("figure(0,0,0:0;0,0,1:0)", 2);
        run.is("figure(-200,-200,0:0;200,200,200:0)", 3).is("figure(0,0,0:0;100,0,0:0;-100,0,0:0;-100,1,1:0)", 4);
        run.refuses("spread(0)", NONE).is("spread(1)", 0).is("spread(2)", 1).is("spread(3)", 360000).is("spread(4)", 2);
        run.refusesAll(NONE, "spread(-1)", "spread(5)", "spread(8)", "spread(least)", "spread(most)");
        run("spread without worth").is("figure(0,0,0:9;0,0,1:0)", 0).is("spread(0)", 1).is("point(0, -1, 1)", 0)
                .is("gap(1)", 10).is("point(0, -1, 1)", 1);
        run("spread without figures").refusesAll(NONE, "spread(0)", "spread(-1)");
        run("spread of the first and the last point").is("figure(0,0,0:0;50,0,0:0;90,0,0:0;0,3,4:0)", 0).is("spread(0)", 25);
    }

    private static void gapEdges() {
        run("gap").is("gap(0)", 10).is("count(5)", 0).is("gap(100)", 0).is("count(5)", 100)
                .refusesAll(BAD, "gap(-1)", "gap(101)", "gap(least)", "gap(most)").is("count(5)", 100).is("gap(1)", 100)
                .is("gap(99)", 1).is("gap(10)", 99).is("gap(10)", 10);
        run("gap at first").refusesAll(BAD, "gap(-1)", "gap(101)").is("gap(5)", 10);
    }

    /** Just so far is not too near; a hair less is. */
    private static void gapExactly() {
        run("gap, exactly").is("figure(0,0,0:0;1,7,7:0)", 0).is("figure(0,0,0:0;0,6,8:0)", 1).is("figure(0,0,0:0;0,1,10:0)", 2)
                .is("point(0, -1, 1)", 0).is("point(1, -1, 1)", 1).is("point(2, -1, 1)", 1).is("spread(0)", 99)
                .is("gap(11)", 10).is("point(1, -1, 1)", 0).is("point(2, -1, 1)", 0).is("gap(9)", 11).is("point(0, -1, 1)", 1);
        run("gap 100, exactly").is("gap(100)", 10).is("figure(-50,0,0:0;49,14,1:0)", 0).is("figure(-50,0,0:0;50,0,0:0)", 1)
                .is("figure(-50,0,0:0;50,1,0:0)", 2).is("spread(0)", 9998).is("point(0, -1, 1)", 0).is("point(1, -1, 1)", 1)
                .is("point(2, -1, 1)", 1);
        run("gap 3, exactly").is("gap(3)", 10).is("figure(0,0,0:0;0,2,2:0)", 0).is("figure(0,0,0:0;1,2,2:0)", 1)
                .is("point(0, -1, 1)", 0).is("point(1, -1, 1)", 1);
        run("the last two of ten").is("figure(0,0,0:0;20,0,0:0;40,0,0:0;60,0,0:0;80,0,0:0;100,0,0:0;120,0,0:0;140,0,0:0;160,0,0:0;169,0,0:0)", 0)
                .is("point(0, -1, 1)", 0).is("gap(9)", 10).is("point(0, -1, 1)", 1);
    }

    private static void gapNoughtAndMost() {
        run("gap 0 and 1").is("figure(5,5,5:0;5,5,5:0)", 0).is("figure(5,5,5:0;5,5,6:0)", 1).is("figure(5,5,5:0)", 2)
                .is("gap(0)", 10).is("point(0, -1, 1)", 1).is("point(1, -1, 1)", 1).is("point(2, -1, 1)", 1)
                .is("gap(1)", 0).is("point(0, -1, 1)", 0).is("point(1, -1, 1)", 1).is("gap(2)", 1)
                .is("point(1, -1, 1)", 0).is("gap(100)", 2).is("point(2, -1, 1)", 1);
    }

    private static void zoneEdges() {
        Run run = flyers("zone", 1).is("pass(-1, -1, 1)", 0).is("zone(-190, 0, 11)", 0).is("enters(0)", 1);
        run.refusesAll(BAD, "zone(-201, 0, 0)", "zone(201, 0, 0)", "zone(least, 0, 0)", "zone(most, 0, 0)");
        run.refusesAll(BAD, "zone(0, -201, 0)", "zone(0, 201, 0)", "zone(0, least, 0)", "zone(0, most, 0)");
        run.refusesAll(BAD, "zone(0, 0, -1)", "zone(0, 0, 201)", "zone(0, 0, least)", "zone(0, 0, most)");
        run.is("enters(0)", 1).is("zone(-200, 0, 0)", 0).is("enters(0)", 0).is("zone(-200, 0, 21)", 0).is("enters(0)", 1);
        run.is("zone(200, 200, 200)", 0).is("enters(0)", 0).is("zone(20, 0, 200)", 0).is("enters(0)", 0);
        run.is("zone(19, 0, 200)", 0).is("enters(0)", 1).is("zone(-180, -200, 200)", 0).is("enters(0)", 0);
        run.is("zone(-180, -199, 200)", 0).is("enters(0)", 1).is("zone(-180, 200, 200)", 0).is("enters(0)", 0);
        run.is("zone(-180, 199, 200)", 0).is("enters(0)", 1);
    }

    private static void zoneRadius() {
        Run run = flyers("zone, radius", 1).is("pass(-1, -1, 1)", 0).is("zone(-180, 0, 0)", 0).is("enters(0)", 0);
        run.is("zone(-180, 0, 1)", 0).is("enters(0)", 1).is("zone(-180, 1, 1)", 0).is("enters(0)", 0);
        run.is("zone(-180, 1, 2)", 0).is("enters(0)", 1).is("clean()", 0).is("part()", STATE);
        run.is("zone(-180, 1, 0)", 0).is("clean()", 1).is("part()", 0);
        run.is("mark(0, 0, 5, 5, 5)", 1).is("zone(5, 5, 0)", 0).is("first()", NONE).is("zone(5, 5, 1)", 0).is("first()", 0);
    }
}
