/**
 * Lit flyers that make pictures and pass from one to the next. What each call promises is told in
 * ../shared/DOC.md.
 */
public final class SkyLights {

    public static final int NONE = -1, BAD = -2, STATE = -3, FULL = -4;

    private static final int NONE_TOLD = -1000;
    private static final int NONE_LEFT = -1000000;
    private static final int FAULT_AHEAD = -10;
    private static final int NOBODY = -2;

    private static final int FLYERS_MOST = 10;
    private static final int POINTS_MOST = 10;
    private static final int FIGURES_MOST = 8;
    private static final int SCENES_MOST = 12;
    private static final int MARKS_MOST = 200;
    private static final int TAPE_MOST = 300;

    private static final int REACH = 200;
    private static final int CHARGE_MOST = 100000;
    private static final int GAP_MOST = 100;
    private static final int TICKS_MOST = 30;
    private static final int DELAY_MOST = 9;
    private static final int HOLD_MOST = 100;
    private static final int COLOUR_MOST = 255;
    private static final int MARGIN_MOST = 10000;
    private static final int MOMENT_MOST = 999;

    private static final int X = 0, Y = 1, Z = 2, WORTH = 3;
    private static final int AXES = 3;
    private static final int PADS = -1;

    private final Tape tape = new Tape();
    private final Gallery gallery = new Gallery();
    private final Air air = new Air();
    private final Planner planner = new Planner();
    private final Pass latest = new Pass();
    private final Parting parting = new Parting();
    private final Show show = new Show();
    private final Foreign foreign = new Foreign();

    public SkyLights() {
    }

    // ---- flyers, figures

    public int flyer(int x, int y, int charge) {
        if (!isAcross(x) || !isAcross(y) || !isWithin(charge, 0, CHARGE_MOST)) {
            return BAD;
        }
        if (show.size() > 0) {
            return STATE;
        }
        int number = flyers();
        if (number >= FLYERS_MOST) {
            return FULL;
        }
        gallery.at(PADS).add(x, y, 0, 0);
        show.load(number, charge);
        return number;
    }

    public int feed(long w, int n) {
        if (!isWithin(n, 1, 8)) {
            return BAD;
        }
        if (tape.size() + n > TAPE_MOST) {
            return FULL;
        }
        tape.add(w, n);
        return tape.size();
    }

    public int figure() {
        if (gallery.size() >= FIGURES_MOST) {
            return FULL;
        }
        int fault = tape.read(gallery.spare());
        tape.empty();
        return fault == NONE ? gallery.keepSpare() : FAULT_AHEAD - fault;
    }

    public int point(int figure, int point, int what) {
        if (!gallery.has(figure)) {
            return NONE_TOLD;
        }
        Places places = gallery.at(figure);
        if (point == -1 && what == 0) {
            return places.size();
        }
        if (point == -1 && what == 1) {
            return bit(air.isLoose(places));
        }
        return places.has(point) && isWithin(what, X, WORTH) ? places.told(point, what) : NONE_TOLD;
    }

    public int spread(int figure) {
        if (!gallery.has(figure) || gallery.at(figure).size() < 2) {
            return NONE;
        }
        return gallery.at(figure).leastWay();
    }

    public int gap(int n) {
        if (!isWithin(n, 0, GAP_MOST)) {
            return BAD;
        }
        int before = air.gap;
        air.gap = n;
        return before;
    }

    public int zone(int x, int y, int radius) {
        if (!isAcross(x) || !isAcross(y) || !isWithin(radius, 0, REACH)) {
            return BAD;
        }
        air.zoneX = x;
        air.zoneY = y;
        air.radius = radius;
        return 0;
    }

    // ---- a pass

    public int pass(int from, int to, int ticks) {
        if (!isPicture(from) || !isPicture(to)) {
            return NONE;
        }
        if (!isWithin(ticks, 1, TICKS_MOST)) {
            return BAD;
        }
        int size = gallery.at(from).size();
        if (size == 0 || size != gallery.at(to).size()) {
            return STATE;
        }
        return latest.lead(gallery.at(from), gallery.at(to), ticks, planner);
    }

    public int goes(int i) {
        return latest.has(i) ? latest.goal(i) : NONE;
    }

    public int delay(int i, int n) {
        if (!latest.has(i)) {
            return NONE;
        }
        if (!isWithin(n, 0, DELAY_MOST)) {
            return BAD;
        }
        int before = latest.delayOf(i);
        latest.setDelay(i, n);
        return before;
    }

    public int clash(int a, int b) {
        if (!latest.has(a) || !latest.has(b)) {
            return NONE;
        }
        if (a == b) {
            return BAD;
        }
        return bit(latest.meet(a, b, latest.delayOf(b) - latest.delayOf(a), air.gap));
    }

    public int enters(int i) {
        return latest.has(i) ? bit(latest.isInZone(i, air)) : NONE;
    }

    public int clean() {
        return latest.size() > 0 ? bit(latest.isClean(air)) : STATE;
    }

    public int part() {
        if (latest.size() == 0 || latest.isAnyInZone(air)) {
            return STATE;
        }
        int sum = parting.settle(latest, air.gap);
        return sum == NONE ? STATE : sum;
    }

    // ---- the show

    public int scene(int figure, int ticks, int hold, int colour) {
        if (!gallery.has(figure)) {
            return NONE;
        }
        boolean even = isWithin(ticks, 1, TICKS_MOST) && isWithin(hold, 0, HOLD_MOST);
        if (!even || !isWithin(colour, 0, COLOUR_MOST)) {
            return BAD;
        }
        if (gallery.at(figure).size() != flyers()) {
            return STATE;
        }
        if (show.size() >= SCENES_MOST) {
            return FULL;
        }
        Scene next = show.spare();
        next.hold = hold;
        next.cue = colour;
        next.figure = figure;
        next.way.lead(gallery.at(show.lastFigure()), gallery.at(figure), ticks, planner);
        next.home.lead(gallery.at(figure), gallery.at(PADS), ticks, planner);
        return show.keepSpare();
    }

    public int stands(int flyer, int scene) {
        return isFlyer(flyer) && show.has(scene) ? show.place(flyer, scene) : NONE;
    }

    public int lands(int flyer) {
        if (!isFlyer(flyer)) {
            return NONE;
        }
        return show.size() > 0 ? show.pad(flyer) : STATE;
    }

    public int length() {
        return show.ticks();
    }

    public int left(int flyer) {
        return isFlyer(flyer) ? show.chargeLeft(flyer) : NONE_LEFT;
    }

    public int last() {
        int bits = 0;
        for (int flyer = 0; flyer < flyers(); flyer++) {
            if (show.chargeLeft(flyer) >= show.margin) {
                bits |= 1 << flyer;
            }
        }
        return bits;
    }

    public int margin(int n) {
        if (!isWithin(n, 0, MARGIN_MOST)) {
            return BAD;
        }
        int before = show.margin;
        show.margin = n;
        return before;
    }

    public int colour(int tick) {
        return show.size() > 0 && isWithin(tick, 0, show.ticks()) ? show.light(tick) : NONE;
    }

    public int unclean() {
        int bits = 0;
        for (int scene = 0; scene < show.size(); scene++) {
            if (!show.at(scene).way.isClean(air)) {
                bits |= 1 << scene;
            }
        }
        if (show.size() > 0 && !show.at(show.size() - 1).home.isClean(air)) {
            bits |= 1 << SCENES_MOST;
        }
        return bits;
    }

    public int fails(int flyer, int scene, int what) {
        if (!isFlyer(flyer) || !show.has(scene) || !isWithin(what, 0, 1)) {
            return NONE;
        }
        int helper = NOBODY;
        int least = worth(flyer, scene);
        for (int other = 0; other < flyers(); other++) {
            int worth = worth(other, scene);
            if (worth < least) {
                least = worth;
                helper = other;
            }
        }
        return what == 0 ? least : helper;
    }

    public int cut() {
        if (show.size() == 0) {
            return STATE;
        }
        show.dropLast();
        return show.size();
    }

    // ---- a foreign show

    public int mark(int flyer, int tick, int x, int y, int z) {
        if (!isWithin(flyer, 0, FLYERS_MOST - 1)) {
            return NONE;
        }
        if (!isWithin(tick, 0, MOMENT_MOST) || !foreign.isBehind(flyer, tick)) {
            return BAD;
        }
        if (!isAcross(x) || !isAcross(y) || !isWithin(z, 0, REACH)) {
            return BAD;
        }
        if (foreign.size() >= MARKS_MOST) {
            return FULL;
        }
        foreign.add(flyer, tick, x, y, z);
        return foreign.size();
    }

    public int first() {
        return foreign.firstClash(air);
    }

    public int who(int what) {
        if (what == 0) {
            return foreign.one;
        }
        return what == 1 ? foreign.other : NONE;
    }

    public int wipe() {
        int before = foreign.size();
        foreign.empty();
        return before;
    }

    public int count(int what) {
        switch (what) {
            case 0:
                return flyers();
            case 1:
                return gallery.size();
            case 2:
                return show.size();
            case 3:
                return foreign.size();
            case 4:
                return tape.size();
            case 5:
                return air.gap;
            case 6:
                return show.margin;
            default:
                return NONE;
        }
    }

    private int flyers() {
        return gallery.at(PADS).size();
    }

    private boolean isFlyer(int flyer) {
        return gallery.at(PADS).has(flyer);
    }

    private boolean isPicture(int number) {
        return number == PADS || gallery.has(number);
    }

    private int worth(int flyer, int scene) {
        return gallery.at(show.at(scene).figure).told(show.place(flyer, scene), WORTH);
    }

    private static boolean isWithin(int n, int least, int most) {
        return n >= least && n <= most;
    }

    private static boolean isAcross(int n) {
        return isWithin(n, -REACH, REACH);
    }

    private static int bit(boolean holds) {
        return holds ? 1 : 0;
    }

    /** Numbers in a row. Outside of it all are 0 and none can be put, so that no index ever fails. */
    private static final class Row {
        private final int[] cells;

        Row(int size) {
            cells = new int[size > 0 ? size : 0];
        }

        int at(int i) {
            return i >= 0 && i < cells.length ? cells[i] : 0;
        }

        void put(int i, int value) {
            if (i >= 0 && i < cells.length) {
                cells[i] = value;
            }
        }

        void fill(int value) {
            for (int i = 0; i < cells.length; i++) {
                cells[i] = value;
            }
        }
    }

    /** Points in order: a figure, or the pads, which have no height and no worth. */
    private static final class Places {
        private static final int NUMBERS = 4;

        private final Row cells = new Row(POINTS_MOST * NUMBERS);
        private int size = 0;

        int size() {
            return size;
        }

        boolean has(int i) {
            return i >= 0 && i < size;
        }

        void empty() {
            size = 0;
        }

        void add(int x, int y, int z, int worth) {
            if (size < POINTS_MOST) {
                cells.put(size * NUMBERS + X, x);
                cells.put(size * NUMBERS + Y, y);
                cells.put(size * NUMBERS + Z, z);
                cells.put(size * NUMBERS + WORTH, worth);
                size++;
            }
        }

        int told(int i, int what) {
            return cells.at(i * NUMBERS + what);
        }

        int way(int i, Places to, int goal) {
            int square = 0;
            for (int axis = 0; axis < AXES; axis++) {
                int apart = cells.at(i * NUMBERS + axis) - to.cells.at(goal * NUMBERS + axis);
                square += apart * apart;
            }
            return square;
        }

        /** With fewer than two points a way that is longer than any. */
        int leastWay() {
            int least = Planner.ABOVE_ALL_WAYS;
            for (int i = 0; i < size; i++) {
                for (int j = i + 1; j < size; j++) {
                    least = Math.min(least, way(i, this, j));
                }
            }
            return least;
        }
    }

    /** The pads and the figures, by the numbers that the face gives them. */
    private static final class Gallery {
        private final Places pads = new Places();
        private final Places[] figures = new Places[FIGURES_MOST];
        // Stands for what there is not, so that no reference is null.
        private final Places nothing = new Places();
        private int size = 0;

        Gallery() {
            for (int i = 0; i < figures.length; i++) {
                figures[i] = new Places();
            }
        }

        int size() {
            return size;
        }

        boolean has(int figure) {
            return figure >= 0 && figure < size;
        }

        Places at(int picture) {
            if (picture == PADS) {
                return pads;
            }
            return picture >= 0 && picture < figures.length ? figures[picture] : nothing;
        }

        Places spare() {
            return at(size);
        }

        int keepSpare() {
            size++;
            return size - 1;
        }
    }

    /** The bytes that are fed, and how they are read. */
    private static final class Tape {
        private static final int END = -1;
        private static final int NO_DIGIT = -1;
        private static final int DIGITS_MOST = 3;

        private final Row bytes = new Row(TAPE_MOST);
        private int size = 0;
        private int place = 0;
        private boolean faulty = false;

        int size() {
            return size;
        }

        void empty() {
            size = 0;
        }

        void add(long word, int n) {
            for (int i = n - 1; i >= 0; i--) {
                bytes.put(size, (int) (word >>> (8 * i) & 255));
                size++;
            }
        }

        /** The fault, or NONE: then the points are all there. */
        int read(Places points) {
            place = 0;
            faulty = false;
            points.empty();
            for (int i = 0; i < POINTS_MOST; i++) {
                readPoint(points);
                if (faulty) {
                    return place;
                }
                if (place >= size) {
                    return NONE;
                }
                if (byteHere() != ';') {
                    return place;
                }
                place++;
            }
            // The ; behind the tenth point is what can't be.
            return place - 1;
        }

        private void readPoint(Places points) {
            int x = readNumber(true, ',');
            int y = readNumber(true, ',');
            int z = readNumber(false, ':');
            int worth = readWorth();
            if (!faulty) {
                points.add(x, y, z, worth);
            }
        }

        /** A number and the byte behind it. */
        private int readNumber(boolean signed, char behind) {
            boolean below = !faulty && signed && byteHere() == '-';
            if (below) {
                place++;
            }
            int value = readDigits(below);
            if (!faulty && byteHere() == behind) {
                place++;
            } else {
                faulty = true;
            }
            return below ? -value : value;
        }

        private int readDigits(boolean below) {
            int value = 0;
            for (int many = 0; many < DIGITS_MOST; many++) {
                int digit = digitOf(byteHere());
                if (faulty || digit == NO_DIGIT) {
                    faulty = faulty || many == 0;
                    return value;
                }
                int longer = value * 10 + digit;
                boolean zeroAhead = many > 0 && value == 0;
                boolean lessZero = below && longer == 0;
                if (zeroAhead || lessZero || longer > REACH) {
                    faulty = true;
                    return value;
                }
                value = longer;
                place++;
            }
            return value;
        }

        private int readWorth() {
            int digit = digitOf(byteHere());
            if (faulty || digit == NO_DIGIT) {
                faulty = true;
            } else {
                place++;
            }
            return digit;
        }

        private int byteHere() {
            return place < size ? bytes.at(place) : END;
        }

        private static int digitOf(int sign) {
            return sign >= '0' && sign <= '9' ? sign - '0' : NO_DIGIT;
        }
    }

    /** How near is too near, and where nobody may be. */
    private static final class Air {
        private int gap = 10;
        private int zoneX = 0;
        private int zoneY = 0;
        private int radius = 0;

        boolean isLoose(Places points) {
            return points.leastWay() >= gap * gap;
        }

        boolean isInZone(int x, int y, int toX, int toY) {
            return isNearer(x - zoneX, y - zoneY, 0, toX - zoneX, toY - zoneY, 0, radius);
        }

        /**
         * Whether a straight way from one place to another comes nearer to 0, 0, 0 than the limit.
         * All is whole, so the answer is exact. 64 bits are enough: with places to 12000 on each
         * axis (400 times 30 ticks) the products stay below 10^18.
         */
        static boolean isNearer(long x, long y, long z, long toX, long toY, long toZ, long limit) {
            long stepX = toX - x;
            long stepY = toY - y;
            long stepZ = toZ - z;
            long step = stepX * stepX + stepY * stepY + stepZ * stepZ;
            long inward = -(x * stepX + y * stepY + z * stepZ);
            long begin = x * x + y * y + z * z;
            long most = limit * limit;
            if (inward <= 0) {
                return begin < most;
            }
            if (inward >= step) {
                return toX * toX + toY * toY + toZ * toZ < most;
            }
            // The least square is begin - inward * inward / step, held against most without dividing.
            return (begin - most) * step < inward * inward;
        }
    }

    /** Finds who goes where: the greatest way at its least, then the least goals in order. */
    private static final class Planner {
        private static final int ABOVE_ALL_WAYS = 1000000;

        private final Row ways = new Row(POINTS_MOST * POINTS_MOST);
        // By the goals that the first points took, as bits: the greatest way that the others need.
        private final Row needs = new Row(1 << POINTS_MOST);
        private final Row goals = new Row(POINTS_MOST);

        int goal(int i) {
            return goals.at(i);
        }

        /** The greatest way. */
        int plan(Places from, Places to) {
            int size = Math.min(from.size(), to.size());
            for (int i = 0; i < size; i++) {
                for (int goal = 0; goal < size; goal++) {
                    ways.put(i * POINTS_MOST + goal, from.way(i, to, goal));
                }
            }
            weigh(size);
            choose(size);
            return needs.at(0);
        }

        private void weigh(int size) {
            int all = (1 << size) - 1;
            needs.put(all, 0);
            for (int taken = all - 1; taken >= 0; taken--) {
                int least = ABOVE_ALL_WAYS;
                for (int goal = 0; goal < size; goal++) {
                    if ((taken >> goal & 1) == 0) {
                        least = Math.min(least, needWith(taken, goal));
                    }
                }
                needs.put(taken, least);
            }
        }

        private void choose(int size) {
            int taken = 0;
            for (int i = 0; i < size; i++) {
                int goal = leastGoal(size, taken);
                goals.put(i, goal);
                taken |= 1 << goal;
            }
        }

        private int leastGoal(int size, int taken) {
            for (int goal = 0; goal < size; goal++) {
                if ((taken >> goal & 1) == 0 && needWith(taken, goal) <= needs.at(0)) {
                    return goal;
                }
            }
            return 0;
        }

        /** The greatest way from the next point on, if that one goes to this goal. */
        private int needWith(int taken, int goal) {
            int next = Integer.bitCount(taken);
            return Math.max(ways.at(next * POINTS_MOST + goal), needs.at(taken | 1 << goal));
        }
    }

    /** A pass: each point's way, goal and delay. It keeps the places, so it outlives later flyers. */
    private static final class Pass {
        // A point's numbers: the start by axis, the step from there to the goal by axis, and these.
        private static final int STEP = 3, GOAL = 6, DELAY = 7, NUMBERS = 8;
        private static final int CHARGE = 3, CHARGE_UP = 1;

        private final Row cells = new Row(POINTS_MOST * NUMBERS);
        private int size = 0;
        private int ticks = 1;

        int size() {
            return size;
        }

        boolean has(int i) {
            return i >= 0 && i < size;
        }

        int ticks() {
            return ticks;
        }

        int goal(int i) {
            return cells.at(i * NUMBERS + GOAL);
        }

        int delayOf(int i) {
            return cells.at(i * NUMBERS + DELAY);
        }

        void setDelay(int i, int delay) {
            cells.put(i * NUMBERS + DELAY, delay);
        }

        /** Becomes the pass from one picture to another one of as many points: its greatest way. */
        int lead(Places from, Places to, int time, Planner planner) {
            int greatest = planner.plan(from, to);
            size = from.size();
            ticks = time;
            for (int i = 0; i < size; i++) {
                int goal = planner.goal(i);
                for (int axis = 0; axis < AXES; axis++) {
                    int start = from.told(i, axis);
                    cells.put(i * NUMBERS + axis, start);
                    cells.put(i * NUMBERS + STEP + axis, to.told(goal, axis) - start);
                }
                cells.put(i * NUMBERS + GOAL, goal);
                setDelay(i, 0);
            }
            return greatest;
        }

        int charge(int i) {
            boolean up = cells.at(i * NUMBERS + STEP + Z) > 0;
            return ticks * (up ? CHARGE + CHARGE_UP : CHARGE);
        }

        /** Delays change when one is where, but not where it comes by: the zone needs no moments. */
        boolean isInZone(int i, Air air) {
            int x = cells.at(i * NUMBERS + X);
            int y = cells.at(i * NUMBERS + Y);
            int toX = x + cells.at(i * NUMBERS + STEP + X);
            int toY = y + cells.at(i * NUMBERS + STEP + Y);
            return air.isInZone(x, y, toX, toY);
        }

        boolean isAnyInZone(Air air) {
            for (int i = 0; i < size; i++) {
                if (isInZone(i, air)) {
                    return true;
                }
            }
            return false;
        }

        boolean isClean(Air air) {
            for (int a = 0; a < size; a++) {
                for (int b = a + 1; b < size; b++) {
                    if (meet(a, b, delayOf(b) - delayOf(a), air.gap)) {
                        return false;
                    }
                }
            }
            return !isAnyInZone(air);
        }

        /**
         * Whether two come too near if b sets out so many ticks behind a. Moments are told from the
         * one at which a sets out; between the four that are named here both go evenly.
         */
        boolean meet(int a, int b, int lag, int gap) {
            int begin = Math.min(0, lag);
            int later = Math.max(0, lag);
            int ended = begin + ticks;
            int second = Math.min(later, ended);
            int third = Math.max(later, ended);
            return meetBetween(a, b, lag, begin, second, gap)
                    || meetBetween(a, b, lag, second, third, gap)
                    || meetBetween(a, b, lag, third, later + ticks, gap);
        }

        private boolean meetBetween(int a, int b, int lag, int begin, int end, int gap) {
            return Air.isNearer(
                    apart(a, b, X, begin, begin - lag), apart(a, b, Y, begin, begin - lag),
                    apart(a, b, Z, begin, begin - lag),
                    apart(a, b, X, end, end - lag), apart(a, b, Y, end, end - lag),
                    apart(a, b, Z, end, end - lag), gap * ticks);
        }

        /** How far apart on an axis, times ticks (so that it is whole), each at a time of its own. */
        private int apart(int a, int b, int axis, int timeA, int timeB) {
            int goneA = Math.max(0, Math.min(ticks, timeA));
            int goneB = Math.max(0, Math.min(ticks, timeB));
            int starts = cells.at(a * NUMBERS + axis) - cells.at(b * NUMBERS + axis);
            int stepA = cells.at(a * NUMBERS + STEP + axis) * goneA;
            int stepB = cells.at(b * NUMBERS + STEP + axis) * goneB;
            return starts * ticks + stepA - stepB;
        }
    }

    /** Looks for the least delays with which a pass is clean. */
    private static final class Parting {
        private static final int FREE_MOST = 6, LAG_MOST = 3, ABOVE_ALL_SUMS = 1000;

        // By pair, a bit for each lag: whether the two meet with it.
        private final Row meetings = new Row(POINTS_MOST * POINTS_MOST);
        // Outside of a row all are 0: the points behind the free ones have no delay.
        private final Row tried = new Row(FREE_MOST);
        private final Row least = new Row(FREE_MOST);
        private int size = 0;
        private int free = 0;
        private int leastSum = 0;

        /** Sets the least delays: their sum, or NONE if there are none such. */
        int settle(Pass pass, int gap) {
            size = pass.size();
            free = Math.min(size, FREE_MOST);
            leastSum = ABOVE_ALL_SUMS;
            noteMeetings(pass, gap);
            if (doOthersFit()) {
                search(this, 0, 0);
            }
            if (leastSum == ABOVE_ALL_SUMS) {
                return NONE;
            }
            for (int i = 0; i < size; i++) {
                pass.setDelay(i, least.at(i));
            }
            return leastSum;
        }

        private void noteMeetings(Pass pass, int gap) {
            for (int a = 0; a < size; a++) {
                for (int b = a + 1; b < size; b++) {
                    int bits = 0;
                    for (int lag = -LAG_MOST; lag <= LAG_MOST; lag++) {
                        if (pass.meet(a, b, lag, gap)) {
                            bits |= 1 << (lag + LAG_MOST);
                        }
                    }
                    meetings.put(a * POINTS_MOST + b, bits);
                }
            }
        }

        private boolean doOthersFit() {
            for (int a = free; a < size; a++) {
                for (int b = a + 1; b < size; b++) {
                    if (doMeet(a, b)) {
                        return false;
                    }
                }
            }
            return true;
        }

        /** Delays rise from the first point on, so of equal sums the one that is found first is due. */
        private static void search(Parting parting, int point, int sum) {
            if (sum >= parting.leastSum) {
                return;
            }
            if (point >= parting.free) {
                parting.keepTried(sum);
                return;
            }
            for (int delay = 0; delay <= LAG_MOST; delay++) {
                parting.tried.put(point, delay);
                if (parting.doesFit(point)) {
                    search(parting, point + 1, sum + delay);
                }
            }
        }

        private void keepTried(int sum) {
            leastSum = sum;
            for (int i = 0; i < free; i++) {
                least.put(i, tried.at(i));
            }
        }

        /** Against those whose delays stand already: the ones ahead, and the ones that have none. */
        private boolean doesFit(int point) {
            for (int other = 0; other < point; other++) {
                if (doMeet(other, point)) {
                    return false;
                }
            }
            for (int other = free; other < size; other++) {
                if (doMeet(point, other)) {
                    return false;
                }
            }
            return true;
        }

        private boolean doMeet(int a, int b) {
            int lag = tried.at(b) - tried.at(a) + LAG_MOST;
            return (meetings.at(a * POINTS_MOST + b) >> lag & 1) == 1;
        }
    }

    /** A figure of the show, the way to it, and the way home if it is the last one. */
    private static final class Scene {
        private final Pass way = new Pass();
        private final Pass home = new Pass();
        private int figure = 0;
        private int hold = 0;
        private int cue = 0;

        int ticks() {
            return way.ticks() + hold;
        }
    }

    /** The scenes in their order, and what the flyers can spend on them. */
    private static final class Show {
        private static final int CHARGE_HELD = 2;

        private final Scene[] scenes = new Scene[SCENES_MOST];
        // Stands for what there is not, so that no reference is null.
        private final Scene nothing = new Scene();
        private final Row charges = new Row(FLYERS_MOST);
        private int size = 0;
        private int margin = 50;

        Show() {
            for (int i = 0; i < scenes.length; i++) {
                scenes[i] = new Scene();
            }
        }

        int size() {
            return size;
        }

        boolean has(int scene) {
            return scene >= 0 && scene < size;
        }

        Scene at(int scene) {
            return scene >= 0 && scene < scenes.length ? scenes[scene] : nothing;
        }

        Scene spare() {
            return at(size);
        }

        int keepSpare() {
            size++;
            return size - 1;
        }

        void dropLast() {
            size--;
        }

        void load(int flyer, int charge) {
            charges.put(flyer, charge);
        }

        int lastFigure() {
            return size > 0 ? at(size - 1).figure : PADS;
        }

        int place(int flyer, int scene) {
            int place = flyer;
            for (int i = 0; i <= scene && i < size; i++) {
                place = at(i).way.goal(place);
            }
            return place;
        }

        int pad(int flyer) {
            return at(size - 1).home.goal(place(flyer, size - 1));
        }

        int ticks() {
            int sum = 0;
            for (int i = 0; i < size; i++) {
                sum += at(i).ticks();
            }
            return size > 0 ? sum + at(size - 1).home.ticks() : 0;
        }

        int chargeLeft(int flyer) {
            int rest = charges.at(flyer);
            int place = flyer;
            for (int i = 0; i < size; i++) {
                rest -= at(i).way.charge(place) + CHARGE_HELD * at(i).hold;
                place = at(i).way.goal(place);
            }
            return size > 0 ? rest - at(size - 1).home.charge(place) : rest;
        }

        int light(int tick) {
            int rest = tick;
            int cue = 0;
            for (int i = 0; i < size; i++) {
                Scene scene = at(i);
                if (rest <= scene.way.ticks()) {
                    return fade(cue, scene.cue, rest, scene.way.ticks());
                }
                if (rest <= scene.ticks()) {
                    return scene.cue;
                }
                rest -= scene.ticks();
                cue = scene.cue;
            }
            return fade(cue, 0, rest, at(size - 1).home.ticks());
        }

        private static int fade(int cue, int next, int gone, int ticks) {
            return ticks > 0 ? cue + (next - cue) * gone / ticks : next;
        }
    }

    /** The marks of a foreign show, each flyer's in a chain, and the clash that was told last. */
    private static final class Foreign {
        // A mark's numbers: where it is by axis, and these.
        private static final int TICK = 3, NEXT = 4, NUMBERS = 5;

        private final Row cells = new Row(MARKS_MOST * NUMBERS);
        // By flyer, a mark or NONE: the first one, the last one, the one at which a search stands.
        private final Row heads = new Row(FLYERS_MOST);
        private final Row tails = new Row(FLYERS_MOST);
        private final Row cursors = new Row(FLYERS_MOST);
        private int size = 0;
        private int one = NONE;
        private int other = NONE;

        Foreign() {
            heads.fill(NONE);
            tails.fill(NONE);
        }

        int size() {
            return size;
        }

        void empty() {
            size = 0;
            heads.fill(NONE);
            tails.fill(NONE);
        }

        boolean isBehind(int flyer, int tick) {
            int tail = tails.at(flyer);
            return tail == NONE || tick > told(tail, TICK);
        }

        void add(int flyer, int tick, int x, int y, int z) {
            cells.put(size * NUMBERS + X, x);
            cells.put(size * NUMBERS + Y, y);
            cells.put(size * NUMBERS + Z, z);
            cells.put(size * NUMBERS + TICK, tick);
            cells.put(size * NUMBERS + NEXT, NONE);
            if (tails.at(flyer) == NONE) {
                heads.put(flyer, size);
            } else {
                cells.put(tails.at(flyer) * NUMBERS + NEXT, size);
            }
            tails.put(flyer, size);
            size++;
        }

        int firstClash(Air air) {
            for (int flyer = 0; flyer < FLYERS_MOST; flyer++) {
                cursors.put(flyer, heads.at(flyer));
            }
            // Each round goes behind one mark at least.
            for (int round = 0; round < size; round++) {
                int tick = leastTick();
                if (isClashAt(tick, air)) {
                    return tick;
                }
                goBehind(tick);
            }
            return NONE;
        }

        /** Behind the end of all marks a tick at which nobody is. */
        private int leastTick() {
            int least = MOMENT_MOST + 1;
            for (int flyer = 0; flyer < FLYERS_MOST; flyer++) {
                int mark = cursors.at(flyer);
                if (mark != NONE) {
                    least = Math.min(least, told(mark, TICK));
                }
            }
            return least;
        }

        private void goBehind(int tick) {
            for (int flyer = 0; flyer < FLYERS_MOST; flyer++) {
                if (isThere(flyer, tick)) {
                    cursors.put(flyer, told(cursors.at(flyer), NEXT));
                }
            }
        }

        /** Keeps who it is; the order of the search is the one in which several are told. */
        private boolean isClashAt(int tick, Air air) {
            for (int a = 0; a < FLYERS_MOST; a++) {
                if (isThere(a, tick)) {
                    boolean inZone = isInZone(cursors.at(a), air);
                    int partner = inZone ? NONE : partner(a, tick, air);
                    if (inZone || partner != NONE) {
                        one = a;
                        other = partner;
                        return true;
                    }
                }
            }
            return false;
        }

        private int partner(int a, int tick, Air air) {
            for (int b = a + 1; b < FLYERS_MOST; b++) {
                if (isThere(b, tick) && areNear(cursors.at(a), cursors.at(b), air.gap)) {
                    return b;
                }
            }
            return NONE;
        }

        private boolean isThere(int flyer, int tick) {
            int mark = cursors.at(flyer);
            return mark != NONE && told(mark, TICK) == tick;
        }

        private boolean isInZone(int mark, Air air) {
            int end = end(mark);
            return air.isInZone(told(mark, X), told(mark, Y), told(end, X), told(end, Y));
        }

        /** If one of two is there at the tick alone, they can only be near at the tick. */
        private boolean areNear(int a, int b, int gap) {
            boolean on = end(a) != a && end(b) != b;
            int endA = on ? end(a) : a;
            int endB = on ? end(b) : b;
            return Air.isNearer(
                    told(a, X) - told(b, X), told(a, Y) - told(b, Y), told(a, Z) - told(b, Z),
                    told(endA, X) - told(endB, X), told(endA, Y) - told(endB, Y),
                    told(endA, Z) - told(endB, Z), gap);
        }

        /** The mark to which one goes from this one: itself, if none is at the next tick. */
        private int end(int mark) {
            int next = cells.at(mark * NUMBERS + NEXT);
            int after = cells.at(mark * NUMBERS + TICK) + 1;
            return next != NONE && cells.at(next * NUMBERS + TICK) == after ? next : mark;
        }

        private int told(int mark, int what) {
            return cells.at(mark * NUMBERS + what);
        }
    }
}
