import java.util.Arrays;
import java.util.NoSuchElementException;

/** A tube with holes: how it leaks, where one looks for a hole, how one mends it. */
public final class BucketTube {
    public static final int NONE = -1;

    private static final int TEXT_MOST = 700;
    private static final int INCHES_LEAST = 12;
    private static final int INCHES_MOST = 84;
    private static final int SIDES = 4;
    private static final int QUARTERS = 4;
    private static final int CAUSES = 4;
    private static final int HOLES_MOST = 6;
    private static final int TRIES_MOST = 6;
    private static final int RIDERS_MOST = 8;
    private static final int CELLS = 40;
    private static final int HOURS = 24;

    private static final int OUTER = 0;
    private static final int RIM = 3;

    private static final int THORN = 0;
    private static final int KERB = 1;
    private static final int SPOKE = 2;
    private static final int VALVE = 3;

    // The settings' numbers are those by which count() asks for them.
    private static final int INCHES = 0;
    private static final int HAND = 1;
    private static final int MISS = 2;
    private static final int NOISE = 3;
    private static final int PRESSURE = 4;
    private static final int MARK = 5;
    private static final int CLUNG = 6;
    private static final int STILL = 7;
    private static final int SETTINGS = 8;
    private static final int[] SETTING_LEAST = {12, 1, 1, 1, 1, 0, 0, 1};
    // MARK has another bound still: there must be such an INCH.
    private static final int[] SETTING_MOST = {84, 9, 99, 99, 100, 83, 99, 99};

    private static final int FLAT = 10000;
    private static final int GONE_MOST = 50000;
    private static final int MINUTES_MOST = 600;
    private static final int MINUTES_LOOKED = 2000;
    private static final int SECONDS_MOST = 600;
    private static final int AIR_MOST = 60;
    private static final int GLUE_MOST = 60;
    private static final int MILES_MOST = 60;
    private static final int MILE_MINUTES = 6;
    private static final int RIDES_MOST = 100;
    private static final int SEEDS_MOST = 30;
    private static final int ACTS_MOST = 40;
    private static final long BILLION = 1000000000L;
    private static final long MILLION = 1000000L;
    private static final long WEIGHT_MOST = 1000000000000000L;

    private final Tape tape = new Tape();
    private final Route route = new Route();
    private final Telling telling;
    private final int[] planRow = new int[INCHES_MOST];
    private final int[] darkRow = new int[TRIES_MOST];
    // Two sheds take turns, so that a text with a fault leaves the one in use as it is.
    private Shed tube = new Shed();
    private Shed spare = new Shed();
    private State state;
    private int kept;
    private State imageState;
    private int imageKept;
    private boolean planKept;
    private int faultPlace = NONE;
    private int textsRefused;
    private int actsRefused;

    public BucketTube() {
        telling = new Telling(tape.bytes, spare);
        state = State.ofNew(tube);
    }

    // ---- the text

    public int feed(int a, int b, int c, int d, int e) {
        if (!tape.hasRoom()) {
            return NONE;
        }
        tape.add(a);
        tape.add(b);
        tape.add(c);
        tape.add(d);
        tape.add(e);
        return tape.length;
    }

    public int shed(int n) throws IllegalArgumentException {
        needArgument(isWithin(n, 0, tape.length));
        tape.length = 0;
        int fault = telling.tell(n, spare);
        if (fault != 0) {
            faultPlace = telling.place;
            textsRefused++;
            return fault;
        }
        faultPlace = NONE;
        beginAnew();
        return 0;
    }

    private void beginAnew() {
        Shed told = spare;
        spare = tube;
        tube = told;
        state = State.ofNew(tube);
        kept = 0;
        imageState = null;
        imageKept = 0;
        planKept = false;
        route.forget();
    }

    public int fault() {
        return faultPlace;
    }

    public int count(int what) throws NoSuchElementException {
        if (isWithin(what, 0, SETTINGS - 1)) {
            return tube.settings[what];
        }
        if (isWithin(what, 11, 14)) {
            return tube.causes[what - 11];
        }
        switch (what) {
            case 8:
                return tube.holes.many;
            case 9:
                return tube.tries.many;
            case 10:
                return tube.riders.many;
            case 15:
                return state.pressure;
            case 16:
                return state.minutes;
            case 17:
                return kept;
            case 18:
                return tape.length;
            case 19:
                return textsRefused;
            case 20:
                return actsRefused;
            default:
                throw new NoSuchElementException("no such count");
        }
    }

    public int hole(int hole, int what) throws NoSuchElementException {
        needHole(hole);
        switch (what) {
            case 0:
                return tube.holes.inch[hole];
            case 1:
                return tube.holes.side[hole];
            case 2:
                return tube.holes.size[hole];
            case 3:
                return tube.holes.isSlow(hole) ? 1 : 0;
            case 4:
                return (state.mended >> hole) & 1;
            default:
                throw new NoSuchElementException("no such thing of a hole");
        }
    }

    // ---- the air that goes

    public int leak(boolean load) {
        return tube.goneBy(leakingHoles(load), state.pressure, state.minutes, load);
    }

    public int minutes(int many, boolean load) {
        if (!isWithin(many, 1, MINUTES_MOST)) {
            return refuseAct();
        }
        int holes = leakingHoles(load);
        int pressure = state.pressure;
        for (int i = 0; i < many; i++) {
            pressure -= tube.goneBy(holes, pressure, state.minutes + i, load);
        }
        keepAct(pressure, state.minutes + many, state.mended, state.weights);
        return pressure;
    }

    public int pump() {
        int was = state.pressure;
        keepAct(tube.fullPressure(), state.minutes, state.mended, state.weights);
        return was;
    }

    public int undo() {
        if (kept == 0 || state.before == null) {
            return NONE;
        }
        state = state.before;
        kept--;
        route.forget();
        return kept;
    }

    public int flat(boolean load) {
        return minutesTillFlat(leakingHoles(load), load);
    }

    public int flatIf(int holes, boolean load) throws IllegalArgumentException {
        needArgument((holes & ~tube.holes.all()) == 0);
        return minutesTillFlat(holes, load);
    }

    public int which(int gone, boolean load, int what) throws NoSuchElementException {
        needElement(isWithin(what, 0, 1));
        int sets = 0;
        int least = NONE;
        for (int set = 0; set <= tube.holes.all(); set++) {
            if (tube.goneBy(set, state.pressure, state.minutes, load) == gone) {
                sets++;
                least = least == NONE ? set : least;
            }
        }
        return what == 0 ? sets : least;
    }

    private int minutesTillFlat(int holes, boolean load) {
        int pressure = state.pressure;
        if (pressure < FLAT) {
            return 0;
        }
        boolean steady = tube.leaksAlikeEachMinute(holes);
        for (int i = 0; i < MINUTES_LOOKED; i++) {
            int gone = tube.goneBy(holes, pressure, state.minutes + i, load);
            if (gone == 0 && steady) {
                return NONE;
            }
            pressure -= gone;
            if (pressure < FLAT) {
                return i + 1;
            }
        }
        return NONE;
    }

    private int leakingHoles(boolean load) {
        int holes = 0;
        for (int i = 0; i < tube.holes.many; i++) {
            if (load || !tube.holes.isSlow(i)) {
                holes |= 1 << i;
            }
        }
        return holes & ~state.mended;
    }

    // ---- what one believes

    public int dip(int inch, int seconds) {
        if (!isInch(inch) || !isWithin(seconds, 1, SECONDS_MOST)) {
            return refuseAct();
        }
        long[] weights = state.weights.clone();
        for (int i = 0; i < tube.hand(); i++) {
            Belief.lessenInch(weights, tube.round(inch + i), tube.miss(), seconds);
        }
        return believe(weights);
    }

    public int listen(int quarter, int seconds) {
        if (!isWithin(quarter, 0, QUARTERS - 1) || !isWithin(seconds, 1, SECONDS_MOST)) {
            return refuseAct();
        }
        long[] weights = state.weights.clone();
        for (int inch = 0; inch < tube.inches(); inch++) {
            if (tube.quarterOf(inch) == quarter) {
                Belief.lessenInch(weights, inch, tube.settings[NOISE], seconds);
            }
        }
        return believe(weights);
    }

    public int thorn(int inch) {
        if (!isInch(inch)) {
            return refuseAct();
        }
        int one = tube.round(inch - tube.mark());
        int other = tube.round(tube.mark() - inch);
        long[] weights = state.weights.clone();
        Belief.raiseOuter(weights, one);
        if (other != one) {
            Belief.raiseOuter(weights, other);
        }
        return believe(weights);
    }

    public long weight(int place) throws NoSuchElementException {
        needPlace(place);
        return state.weights[place];
    }

    public int odds(int place) throws NoSuchElementException {
        needPlace(place);
        return ofThousand(state.weights[place], Belief.total(state.weights));
    }

    public int ofInch(int inch) throws NoSuchElementException {
        needElement(isInch(inch));
        return ofThousand(Belief.totalOfInch(state.weights, inch), Belief.total(state.weights));
    }

    public int ofSide(int side) throws NoSuchElementException {
        needElement(isWithin(side, 0, SIDES - 1));
        return ofThousand(Belief.totalOfSide(state.weights, side), Belief.total(state.weights));
    }

    public int quarter() {
        int best = 0;
        long most = weightOfQuarter(0);
        for (int i = 1; i < QUARTERS; i++) {
            long weight = weightOfQuarter(i);
            if (weight > most) {
                most = weight;
                best = i;
            }
        }
        return best;
    }

    private long weightOfQuarter(int quarter) {
        long sum = 0;
        for (int inch = 0; inch < tube.inches(); inch++) {
            if (tube.quarterOf(inch) == quarter) {
                sum += Belief.totalOfInch(state.weights, inch);
            }
        }
        return sum;
    }

    private int believe(long[] weights) {
        keepAct(state.pressure, state.minutes, state.mended, weights);
        route.forget();
        return Belief.likeliest(weights);
    }

    // ---- where to dip

    public int next(int what) throws NoSuchElementException {
        needElement(isWithin(what, 0, 2));
        if (what == 0) {
            return Belief.likeliest(state.weights);
        }
        setOut();
        return what == 1 ? route.inchIn(0) : route.firstStay();
    }

    public int plan(int seconds) throws IllegalArgumentException {
        needArgument(isWithin(seconds, 0, SECONDS_MOST));
        setOut();
        Arrays.fill(planRow, 0);
        int inches = 0;
        for (int i = 0; i < seconds; i++) {
            int inch = route.inchIn(i);
            inches += planRow[inch] == 0 ? 1 : 0;
            planRow[inch]++;
        }
        planKept = true;
        return inches;
    }

    public int planned(int inch) throws NoSuchElementException {
        needElement(planKept && isInch(inch));
        return planRow[inch];
    }

    public int enough(int parts) throws IllegalArgumentException {
        needArgument(isWithin(parts, 0, 1000));
        setOut();
        long most = route.totalBehind(0) / 1000 * parts;
        for (int i = 0; i <= SECONDS_MOST; i++) {
            if (route.totalBehind(i) <= most) {
                return i;
            }
        }
        return NONE;
    }

    public int seek(int seed, boolean load, int what) throws NoSuchElementException {
        needElement(isWithin(what, 0, 1));
        return partOfFind(findBy(seed, leakingHoles(load), 0), what);
    }

    public int sweep(int seed, boolean load, int each, int what)
            throws NoSuchElementException, IllegalArgumentException {
        needElement(isWithin(what, 0, 1));
        needArgument(isWithin(each, 1, 60));
        return partOfFind(findBy(seed, leakingHoles(load), each), what);
    }

    public int seeks(int seed, int many, boolean load, int what)
            throws NoSuchElementException, IllegalArgumentException {
        needElement(isWithin(what, 0, 2));
        needArgument(isWithin(many, 0, SEEDS_MOST));
        int holes = leakingHoles(load);
        int finds = 0;
        int together = 0;
        int most = 0;
        for (int i = 0; i < many; i++) {
            int found = findBy(seed + i, holes, 0);
            if (found != NONE) {
                int seconds = partOfFind(found, 0);
                finds++;
                together += seconds;
                most = Math.max(most, seconds);
            }
        }
        return what == 0 ? finds : what == 1 ? together : most;
    }

    /** Brings the route up to what one believes now; it stays till that changes. */
    private void setOut() {
        if (!route.begun) {
            route.begin(tube, state.weights);
        }
    }

    /** SECONDS and HOLE that a seed finds, as one number for partOfFind(), or NONE; it sweeps, unless each is 0. */
    private int findBy(int seed, int holes, int each) {
        if (holes == 0) {
            return NONE;
        }
        if (each == 0) {
            setOut();
        }
        int grown = seed;
        for (int second = 0; second < SECONDS_MOST; second++) {
            int inch = each == 0 ? route.inchIn(second) : tube.sweptInch(second, each);
            for (int hole = 0; hole < tube.holes.many; hole++) {
                if ((holes >> hole & 1) == 1 && tube.looksAt(inch, tube.holes.inch[hole])) {
                    grown = grownSeed(grown);
                    if (drawOfHundred(grown) >= tube.miss()) {
                        return (second + 1) * HOLES_MOST + hole;
                    }
                }
            }
        }
        return NONE;
    }

    private static int partOfFind(int found, int what) {
        if (found == NONE) {
            return NONE;
        }
        return what == 0 ? found / HOLES_MOST : found % HOLES_MOST;
    }

    // ---- air that clung

    public int air(int seconds) throws IllegalArgumentException {
        needArgument(isWithin(seconds, 0, AIR_MOST));
        long clung = tube.settings[CLUNG] * BILLION;
        for (int i = 0; i < seconds; i++) {
            clung = clung * tube.settings[STILL] / 100;
        }
        return holeAmong(clung);
    }

    public int line(int odds) throws IllegalArgumentException {
        needArgument(isWithin(odds, 0, 1000));
        long clung = tube.settings[CLUNG] * BILLION;
        for (int i = 0; i <= AIR_MOST; i++) {
            if (holeAmong(clung) >= odds) {
                return i;
            }
            clung = clung * tube.settings[STILL] / 100;
        }
        return NONE;
    }

    private int holeAmong(long clung) {
        long holes = (100 - tube.settings[CLUNG]) * BILLION;
        return ofThousand(holes, holes + clung);
    }

    // ---- patches

    public int holds(int hole, int minutes, int cold, int damp)
            throws NoSuchElementException, IllegalArgumentException {
        needHole(hole);
        needArgument(isWithin(minutes, 0, GLUE_MOST) && isHundred(cold) && isHundred(damp));
        return tube.holdsBy(hole, minutes, cold, damp);
    }

    public int glue(int hole, int cold, int damp, int holds)
            throws NoSuchElementException, IllegalArgumentException {
        needHole(hole);
        needArgument(isHundred(cold) && isHundred(damp) && isHundred(holds));
        return tube.glueFor(hole, cold, damp, holds);
    }

    public boolean patch(int hole, int minutes, int cold, int damp, int seed)
            throws NoSuchElementException, IllegalArgumentException {
        needHole(hole);
        needArgument(isWithin(minutes, 0, GLUE_MOST) && isHundred(cold) && isHundred(damp));
        boolean mended = drawOfHundred(grownSeed(seed)) < tube.holdsBy(hole, minutes, cold, damp);
        int bit = 1 << hole;
        keepAct(state.pressure, state.minutes, mended ? state.mended | bit : state.mended & ~bit, state.weights);
        return mended;
    }

    // ---- the tyre

    public int feel(int inch) throws NoSuchElementException {
        needElement(isInch(inch));
        int one = tube.round(tube.mark() + inch);
        int other = tube.round(tube.mark() - inch);
        return 100 * Math.min(one, other) + Math.max(one, other);
    }

    public int fits(int inch) throws NoSuchElementException {
        needElement(isInch(inch));
        int holes = 0;
        for (int i = 0; i < tube.holes.many; i++) {
            int at = tube.holes.inch[i];
            if (tube.round(tube.mark() + at) == inch || tube.round(tube.mark() - at) == inch) {
                holes |= 1 << i;
            }
        }
        return holes;
    }

    public int cause(int hole, int cause) throws NoSuchElementException {
        needHole(hole);
        needElement(isWithin(cause, NONE, CAUSES - 1));
        long all = 0;
        long most = 0;
        int likeliest = NONE;
        for (int i = 0; i < CAUSES; i++) {
            long weight = tube.weightOfCause(hole, i);
            all += weight;
            if (weight > most) {
                most = weight;
                likeliest = i;
            }
        }
        return cause == NONE ? likeliest : ofThousand(tube.weightOfCause(hole, cause), all);
    }

    // ---- to mend, to ride, to walk

    public int ride(int miles, int what) throws NoSuchElementException, IllegalArgumentException {
        needElement(isWithin(what, 0, 1));
        needArgument(isWithin(miles, 0, MILES_MOST));
        int pumped = pumpedOver(miles);
        return what == 0 || pumped == NONE ? pumped : minutesRidden(miles, pumped);
    }

    public int best(int miles, int cold, int damp, int holds, int what)
            throws NoSuchElementException, IllegalArgumentException {
        needElement(isWithin(what, 0, 1));
        needArgument(isWithin(miles, 0, MILES_MOST) && isHundred(cold) && isHundred(damp) && isHundred(holds));
        int best = 2;
        int fewest = 20 * miles;
        int pumped = pumpedOver(miles);
        if (pumped != NONE && minutesRidden(miles, pumped) <= fewest) {
            best = 1;
            fewest = minutesRidden(miles, pumped);
        }
        int glued = tube.glueForAll(leakingHoles(true), cold, damp, holds);
        int mending = glued + 15 + MILE_MINUTES * miles;
        if (glued != NONE && mending <= fewest) {
            best = 0;
            fewest = mending;
        }
        return what == 0 ? best : fewest;
    }

    public int rides(int miles) throws IllegalArgumentException {
        needArgument(isWithin(miles, 1, MILES_MOST));
        int holes = leakingHoles(true);
        int each = MILE_MINUTES * miles;
        for (int i = 0; i < RIDES_MOST; i++) {
            if (!tube.lasts(holes, each, state.minutes + i * each)) {
                return i;
            }
            if (tube.leaksAlikeEachMinute(holes)) {
                return RIDES_MOST;
            }
        }
        return RIDES_MOST;
    }

    private static int minutesRidden(int miles, int pumped) {
        return MILE_MINUTES * miles + 3 * pumped;
    }

    private int pumpedOver(int miles) {
        int holes = leakingHoles(true);
        int pressure = state.pressure;
        int pumped = 0;
        for (int i = 0; i < MILE_MINUTES * miles; i++) {
            int minute = state.minutes + i;
            int left = pressure - tube.goneBy(holes, pressure, minute, true);
            if (left < FLAT) {
                pumped++;
                int full = tube.fullPressure();
                left = full - tube.goneBy(holes, full, minute, true);
            }
            if (left < FLAT) {
                return NONE;
            }
            pressure = left;
        }
        return pumped;
    }

    // ---- in the dark

    public int dark(int i) throws NoSuchElementException {
        needElement(i >= 0);
        if (i >= tube.tries.many) {
            return NONE;
        }
        tube.tries.putInOrder(darkRow);
        return darkRow[i];
    }

    public int mean(int what) throws NoSuchElementException {
        needElement(isWithin(what, 0, 1));
        tube.tries.putInOrder(darkRow);
        int spent = 0;
        int together = 0;
        int weights = 0;
        for (int i = 0; i < tube.tries.many; i++) {
            int chosen = darkRow[i];
            spent += tube.tries.cost[chosen];
            together += spent * tube.tries.weight[chosen];
            weights += tube.tries.weight[chosen];
        }
        return what == 0 ? together : weights;
    }

    // ---- a road of tacks

    public int tacks(int what) throws NoSuchElementException {
        needElement(isWithin(what, 0, 2));
        int fitting = 0;
        int firstCell = NONE;
        for (int i = 0; i < CELLS; i++) {
            int hours = tube.riders.hoursFitting(i);
            fitting += hours;
            if (hours > 0 && firstCell == NONE) {
                firstCell = i;
            }
        }
        if (what == 0) {
            return fitting;
        }
        return what == 1 || firstCell == NONE ? firstCell : tube.riders.firstHourFitting(firstCell);
    }

    public int cell(int cell) throws NoSuchElementException {
        needElement(isWithin(cell, 0, CELLS - 1));
        return tube.riders.hoursFitting(cell);
    }

    // ---- acts and the image

    public void image() {
        imageState = state;
        imageKept = kept;
    }

    public boolean restore() {
        if (imageState == null) {
            return false;
        }
        state = imageState;
        kept = imageKept;
        route.forget();
        return true;
    }

    private void keepAct(int pressure, int minutes, int mended, long[] weights) {
        state = new State(state, pressure, minutes, mended, weights);
        kept = Math.min(kept + 1, ACTS_MOST);
    }

    private int refuseAct() {
        actsRefused++;
        return NONE;
    }

    // ---- what many of them need

    private boolean isInch(int inch) {
        return isWithin(inch, 0, tube.inches() - 1);
    }

    private void needHole(int hole) {
        needElement(isWithin(hole, 0, tube.holes.many - 1));
    }

    private void needPlace(int place) {
        needElement(isWithin(place, 0, state.weights.length - 1));
    }

    private static boolean isWithin(int number, int least, int most) {
        return number >= least && number <= most;
    }

    private static boolean isHundred(int number) {
        return isWithin(number, 0, 100);
    }

    private static void needElement(boolean there) {
        if (!there) {
            throw new NoSuchElementException("there is none of that number");
        }
    }

    private static void needArgument(boolean fine) {
        if (!fine) {
            throw new IllegalArgumentException("a number is not as the document tells");
        }
    }

    private static int grownSeed(int seed) {
        return seed * 1103515245 + 12345;
    }

    private static int drawOfHundred(int grown) {
        return ((grown >>> 16) & 0x7fff) % 100;
    }

    /** Digit by digit: a part by 1000 is more than a long holds, once thorns have raised a whole side. */
    private static int ofThousand(long part, long all) {
        if (all <= 0) {
            return 0;
        }
        long odds = part / all;
        long rest = part % all;
        for (int i = 0; i < 3; i++) {
            rest *= 10;
            odds = odds * 10 + rest / all;
            rest %= all;
        }
        return (int) odds;
    }

    /** What acts change. A state never changes, so that undoing and an image just go back to one. */
    private static final class State {
        final State before;
        final int pressure;
        final int minutes;
        final int mended;
        final long[] weights;

        State(State before, int pressure, int minutes, int mended, long[] weights) {
            this.before = before;
            this.pressure = pressure;
            this.minutes = minutes;
            this.mended = mended;
            this.weights = weights;
        }

        static State ofNew(Shed tube) {
            return new State(null, tube.fullPressure(), 0, 0, Belief.ofCauses(tube));
        }
    }

    /** Rows of WEIGHTS, one for each PLACE. */
    private static final class Belief {
        static long[] ofCauses(Shed tube) {
            long[] weights = new long[SIDES * tube.inches()];
            for (int place = 0; place < weights.length; place++) {
                for (int cause = 0; cause < CAUSES; cause++) {
                    if (Shed.mayMake(cause, place / SIDES, place % SIDES)) {
                        weights[place] += tube.shareOfCause(cause, BILLION);
                    }
                }
            }
            return weights;
        }

        static long total(long[] weights) {
            long sum = 0;
            for (int i = 0; i < weights.length; i++) {
                sum += weights[i];
            }
            return sum;
        }

        static long totalOfInch(long[] weights, int inch) {
            long sum = 0;
            for (int i = SIDES * inch; i >= 0 && i < SIDES * inch + SIDES && i < weights.length; i++) {
                sum += weights[i];
            }
            return sum;
        }

        static long totalOfSide(long[] weights, int side) {
            long sum = 0;
            for (int i = side; i >= 0 && i < weights.length; i += SIDES) {
                sum += weights[i];
            }
            return sum;
        }

        static int likeliest(long[] weights) {
            int best = 0;
            for (int i = 1; i < weights.length; i++) {
                if (weights[i] > weights[best]) {
                    best = i;
                }
            }
            return best;
        }

        static void lessenInch(long[] weights, int inch, int ofHundred, int seconds) {
            for (int i = SIDES * inch; i >= 0 && i < SIDES * inch + SIDES && i < weights.length; i++) {
                long weight = weights[i];
                for (int second = 0; second < seconds && weight > 0; second++) {
                    weight = weight * ofHundred / 100;
                }
                weights[i] = weight;
            }
        }

        static void raiseOuter(long[] weights, int inch) {
            int place = SIDES * inch + OUTER;
            if (place >= 0 && place < weights.length) {
                weights[place] = Math.min(10 * weights[place], WEIGHT_MOST);
            }
        }
    }

    /** The DIPS at NEXT, SECOND by SECOND: worked out as far as they are asked for, and kept for other calls. */
    private static final class Route {
        private final long[] weights = new long[SIDES * INCHES_MOST];
        private final long[] ofInches = new long[INCHES_MOST];
        private final int[] inches = new int[SECONDS_MOST];
        private final long[] totals = new long[SECONDS_MOST + 1];
        private Shed tube;
        private int known;
        private boolean begun;

        void forget() {
            begun = false;
        }

        void begin(Shed from, long[] believed) {
            tube = from;
            int length = Math.min(believed.length, weights.length);
            System.arraycopy(believed, 0, weights, 0, length);
            for (int i = 0; i < tube.inches(); i++) {
                ofInches[i] = Belief.totalOfInch(weights, i);
            }
            totals[0] = Belief.total(believed);
            known = 0;
            begun = true;
        }

        int inchIn(int second) {
            if (!isWithin(second, 0, SECONDS_MOST - 1)) {
                return 0;
            }
            goOn(second + 1);
            return inches[second];
        }

        long totalBehind(int seconds) {
            if (!isWithin(seconds, 0, SECONDS_MOST)) {
                return 0;
            }
            goOn(seconds);
            return totals[seconds];
        }

        int firstStay() {
            int first = inchIn(0);
            int stay = 1;
            while (stay < SECONDS_MOST && inchIn(stay) == first) {
                stay++;
            }
            return stay;
        }

        private void goOn(int seconds) {
            if (tube == null) {
                return;
            }
            for (int i = known; i < seconds && i < SECONDS_MOST; i++) {
                inches[i] = bestInch();
                totals[i + 1] = totals[i] - dipAt(inches[i]);
                known = i + 1;
            }
        }

        private int bestInch() {
            int many = tube.inches();
            int hand = tube.hand();
            long sum = 0;
            for (int i = 0; i < hand; i++) {
                sum += ofInches[i];
            }
            int best = 0;
            long most = sum;
            for (int i = 1; i < many; i++) {
                int last = i + hand - 1;
                sum += ofInches[last < many ? last : last - many] - ofInches[i - 1];
                if (sum > most) {
                    most = sum;
                    best = i;
                }
            }
            return best;
        }

        private long dipAt(int inch) {
            long lost = 0;
            for (int i = 0; i < tube.hand(); i++) {
                int at = tube.round(inch + i);
                Belief.lessenInch(weights, at, tube.miss(), 1);
                long left = Belief.totalOfInch(weights, at);
                lost += ofInches[at] - left;
                ofInches[at] = left;
            }
            return lost;
        }
    }

    /** What a TEXT has told: acts change nothing of it. */
    private static final class Shed {
        final int[] settings = new int[SETTINGS];
        final int[] causes = new int[CAUSES];
        final Holes holes = new Holes();
        final Tries tries = new Tries();
        final Riders riders = new Riders();
        final Rule leakRule = new Rule();
        final Rule holdsRule = new Rule();
        private final int[] values = new int[Rule.VALUES_MOST];

        Shed() {
            clear();
        }

        void clear() {
            settings[INCHES] = 48;
            settings[HAND] = 3;
            settings[MISS] = 60;
            settings[NOISE] = 90;
            settings[PRESSURE] = 60;
            settings[MARK] = 0;
            settings[CLUNG] = 30;
            settings[STILL] = 50;
            causes[THORN] = 5;
            causes[KERB] = 2;
            causes[SPOKE] = 1;
            causes[VALVE] = 1;
            holes.many = 0;
            tries.many = 0;
            riders.many = 0;
            leakRule.clear();
            holdsRule.clear();
        }

        int inches() {
            return settings[INCHES];
        }

        int hand() {
            return settings[HAND];
        }

        int miss() {
            return settings[MISS];
        }

        int mark() {
            return settings[MARK];
        }

        int fullPressure() {
            return 1000 * settings[PRESSURE];
        }

        int round(int inch) {
            return Math.floorMod(inch, Math.max(settings[INCHES], INCHES_LEAST));
        }

        int quarterOf(int inch) {
            return inch * QUARTERS / Math.max(inches(), INCHES_LEAST);
        }

        boolean looksAt(int dip, int inch) {
            return round(inch - dip) < hand();
        }

        int sweptInch(int second, int each) {
            int hand = Math.max(hand(), 1);
            int dips = (inches() + hand - 1) / hand;
            int dip = second / Math.max(each, 1);
            return dip % Math.max(dips, 1) * hand;
        }

        static boolean mayMake(int cause, int inch, int side) {
            switch (cause) {
                case THORN:
                    return side == OUTER;
                case KERB:
                    return isFlank(side);
                case SPOKE:
                    return side == RIM;
                default:
                    return side == RIM && inch == 0;
            }
        }

        private static boolean isFlank(int side) {
            return side != OUTER && side != RIM;
        }

        long shareOfCause(int cause, long unit) {
            int places = cause == VALVE ? 1 : cause == KERB ? 2 * inches() : inches();
            return causes[cause] * unit / Math.max(places, 1);
        }

        long weightOfCause(int hole, int cause) {
            if (!mayMake(cause, holes.inch[hole], holes.side[hole])) {
                return 0;
            }
            long share = shareOfCause(cause, MILLION);
            return cause == KERB && hasFlankBeside(hole) ? 10 * share : share;
        }

        private boolean hasFlankBeside(int hole) {
            for (int i = 0; i < holes.many; i++) {
                if (i != hole && isFlank(holes.side[i]) && inchesApart(i, hole) <= 1) {
                    return true;
                }
            }
            return false;
        }

        private int inchesApart(int one, int other) {
            int apart = round(holes.inch[one] - holes.inch[other]);
            return Math.min(apart, inches() - apart);
        }

        boolean leaksAlikeEachMinute(int set) {
            return set == 0 || !leakRule.asks(Rule.MINUTE);
        }

        /** All by one pressure, though the holes leak in a row: none takes air from another one. */
        int goneBy(int set, int pressure, int minute, boolean load) {
            int gone = 0;
            for (int i = 0; i < holes.many; i++) {
                if ((set >> i & 1) == 1) {
                    gone += goneByHole(i, pressure / 1000, minute, load);
                }
            }
            return Math.min(gone, pressure);
        }

        private int goneByHole(int hole, int pressure, int minute, boolean load) {
            if (!leakRule.isTold()) {
                return holes.size[hole] * pressure;
            }
            values[Rule.SIZE] = holes.size[hole];
            values[Rule.SIDE] = holes.side[hole];
            values[Rule.PRESSURE_NOW] = pressure;
            values[Rule.MINUTE] = minute;
            values[Rule.LOAD] = load ? 1 : 0;
            return Math.max(0, Math.min(leakRule.valueBy(values), GONE_MOST));
        }

        boolean lasts(int set, int minutes, int firstMinute) {
            int pressure = fullPressure();
            for (int i = 0; i < minutes; i++) {
                pressure -= goneBy(set, pressure, firstMinute + i, true);
                if (pressure < FLAT) {
                    return false;
                }
            }
            return true;
        }

        int holdsBy(int hole, int minutes, int cold, int damp) {
            if (!holdsRule.isTold()) {
                return Math.min(12 * minutes, 100);
            }
            values[Rule.SIZE] = holes.size[hole];
            values[Rule.SIDE] = holes.side[hole];
            values[Rule.MINUTES] = minutes;
            values[Rule.COLD] = cold;
            values[Rule.DAMP] = damp;
            values[Rule.NEAR] = holesNear(hole);
            return Math.max(0, Math.min(holdsRule.valueBy(values), 100));
        }

        private int holesNear(int hole) {
            int near = 0;
            for (int i = 0; i < holes.many; i++) {
                if (i != hole && inchesApart(i, hole) <= 2) {
                    near++;
                }
            }
            return near;
        }

        int glueFor(int hole, int cold, int damp, int wanted) {
            for (int i = 0; i <= GLUE_MOST; i++) {
                if (holdsBy(hole, i, cold, damp) >= wanted) {
                    return i;
                }
            }
            return NONE;
        }

        int glueForAll(int set, int cold, int damp, int wanted) {
            int together = 0;
            for (int i = 0; i < holes.many; i++) {
                if ((set >> i & 1) == 1) {
                    int glued = glueFor(i, cold, damp, wanted);
                    if (glued == NONE) {
                        return NONE;
                    }
                    together += glued;
                }
            }
            return together;
        }
    }

    private static final class Holes {
        final int[] inch = new int[HOLES_MOST];
        final int[] side = new int[HOLES_MOST];
        final int[] size = new int[HOLES_MOST];
        int slow;
        int many;

        int all() {
            return (1 << many) - 1;
        }

        boolean isSlow(int hole) {
            return (slow >> hole & 1) == 1;
        }

        boolean isAt(int atInch, int atSide) {
            for (int i = 0; i < many; i++) {
                if (inch[i] == atInch && side[i] == atSide) {
                    return true;
                }
            }
            return false;
        }

        void add(int atInch, int atSide, int ofSize, boolean isSlow) {
            if (many < HOLES_MOST) {
                inch[many] = atInch;
                side[many] = atSide;
                size[many] = ofSize;
                slow = isSlow ? slow | 1 << many : slow & ~(1 << many);
                many++;
            }
        }
    }

    private static final class Tries {
        final int[] cost = new int[TRIES_MOST];
        final int[] weight = new int[TRIES_MOST];
        int many;

        void add(int itsCost, int itsWeight) {
            if (many < TRIES_MOST) {
                cost[many] = itsCost;
                weight[many] = itsWeight;
                many++;
            }
        }

        /** The least mean comes by cost for weight, the cheapest first; like ones by number are the first as a row. */
        void putInOrder(int[] row) {
            for (int i = 0; i < many && i < row.length; i++) {
                int at = i;
                while (at > 0 && isCheaper(i, row[at - 1])) {
                    row[at] = row[at - 1];
                    at--;
                }
                row[at] = i;
            }
        }

        private boolean isCheaper(int one, int other) {
            return cost[one] * weight[other] < cost[other] * weight[one];
        }
    }

    private static final class Riders {
        private final int[] first = new int[RIDERS_MOST];
        private final int[] last = new int[RIDERS_MOST];
        private final int[] hour = new int[RIDERS_MOST];
        private final boolean[] wentFlat = new boolean[RIDERS_MOST];
        int many;

        void add(int from, int to, int inHour, boolean isFlat) {
            if (many < RIDERS_MOST) {
                first[many] = Math.min(from, to);
                last[many] = Math.max(from, to);
                hour[many] = inHour;
                wentFlat[many] = isFlat;
                many++;
            }
        }

        int hoursFitting(int cell) {
            int hours = 0;
            for (int i = 0; i < HOURS; i++) {
                hours += tacksFit(cell, i) ? 1 : 0;
            }
            return hours;
        }

        int firstHourFitting(int cell) {
            for (int i = 0; i < HOURS; i++) {
                if (tacksFit(cell, i)) {
                    return i;
                }
            }
            return NONE;
        }

        private boolean tacksFit(int cell, int fromHour) {
            for (int i = 0; i < many; i++) {
                boolean over = isWithin(cell, first[i], last[i]) && hour[i] >= fromHour;
                if (over != wentFlat[i]) {
                    return false;
                }
            }
            return true;
        }
    }

    /** An EXPR as a row of steps over a stack: what is worked out first stands first. */
    private static final class Rule {
        static final int SIZE = 0;
        static final int SIDE = 1;
        static final int PRESSURE_NOW = 2;
        static final int MINUTE = 3;
        static final int LOAD = 4;
        static final int MINUTES = 2;
        static final int COLD = 3;
        static final int DAMP = 4;
        static final int NEAR = 5;
        static final int VALUES_MOST = 6;

        static final int OR = -1;
        static final int AND = -2;
        static final int NOT = -3;
        static final int LESS = -4;
        static final int SAME = -5;
        static final int PLUS = -6;
        static final int MINUS = -7;
        static final int TIMES = -8;
        static final int OVER = -9;

        // Steps from 0 on are NUMBERS (9999 at most), those from here on VALUES.
        private static final int FIRST_VALUE = 10000;
        // Each EXPR keeps five numbers waiting at most (or, and, test, sum, product), and six stand in one another.
        private static final int STACK_MOST = 40;

        private final int[] steps = new int[TEXT_MOST];
        private final int[] stack = new int[STACK_MOST];
        private int many;

        void clear() {
            many = 0;
        }

        boolean isTold() {
            return many > 0;
        }

        void put(int step) {
            if (many < steps.length) {
                steps[many] = step;
                many++;
            }
        }

        void putValue(int value) {
            put(FIRST_VALUE + value);
        }

        boolean asks(int value) {
            for (int i = 0; i < many; i++) {
                if (steps[i] == FIRST_VALUE + value) {
                    return true;
                }
            }
            return false;
        }

        int valueBy(int[] values) {
            int top = 0;
            for (int i = 0; i < many; i++) {
                int step = steps[i];
                if (step >= 0) {
                    if (top < STACK_MOST) {
                        stack[top] = numberOf(step, values);
                        top++;
                    }
                } else if (step == NOT) {
                    if (top > 0) {
                        stack[top - 1] = oneIf(stack[top - 1] == 0);
                    }
                } else if (top > 1) {
                    top--;
                    stack[top - 1] = joined(step, stack[top - 1], stack[top]);
                }
            }
            return top > 0 ? stack[0] : 0;
        }

        private static int numberOf(int step, int[] values) {
            if (step < FIRST_VALUE) {
                return step;
            }
            int value = step - FIRST_VALUE;
            return value < values.length ? values[value] : 0;
        }

        private static int joined(int step, int left, int right) {
            switch (step) {
                case OR:
                    return oneIf(left != 0 || right != 0);
                case AND:
                    return oneIf(left != 0 && right != 0);
                case LESS:
                    return oneIf(left < right);
                case SAME:
                    return oneIf(left == right);
                case PLUS:
                    return left + right;
                case MINUS:
                    return left - right;
                case TIMES:
                    return left * right;
                default:
                    return right == 0 ? 0 : left / right;
            }
        }

        private static int oneIf(boolean holds) {
            return holds ? 1 : 0;
        }
    }

    private static final class Tape {
        final byte[] bytes = new byte[TEXT_MOST];
        int length;

        boolean hasRoom() {
            return length + 20 <= TEXT_MOST;
        }

        void add(int four) {
            for (int shift = 24; shift >= 0; shift -= 8) {
                if (length < TEXT_MOST) {
                    bytes[length] = (byte) (four >> shift);
                    length++;
                }
            }
        }
    }

    /** The TOKENS of a text, one at a time. */
    private static final class Tokens {
        static final int END = 0;
        static final int WORD = 1;
        static final int NUMBER = 2;
        static final int SIGN = 3;
        static final int STRANGE = 4;

        private final byte[] text;
        private int length;
        private int end;
        int start;
        int kind;

        Tokens(byte[] text) {
            this.text = text;
        }

        void begin(int ofLength) {
            length = Math.max(0, Math.min(ofLength, text.length));
            end = 0;
            step();
        }

        void step() {
            start = end;
            while (start < length && (text[start] == ' ' || text[start] == '\n')) {
                start++;
            }
            end = start;
            if (start >= length) {
                kind = END;
                return;
            }
            kind = kindOf(text[start]);
            end++;
            // Only words and NUMBERS are longer than one byte.
            while ((kind == WORD || kind == NUMBER) && end < length && kindOf(text[end]) == kind) {
                end++;
            }
        }

        private static int kindOf(byte sign) {
            if (sign >= 'a' && sign <= 'z') {
                return WORD;
            }
            if (sign >= '0' && sign <= '9') {
                return NUMBER;
            }
            switch (sign) {
                case ';':
                case '(':
                case ')':
                case '+':
                case '-':
                case '*':
                case '/':
                case '<':
                case '=':
                    return SIGN;
                default:
                    return STRANGE;
            }
        }

        boolean isWord(String word) {
            if (kind != WORD || end - start != word.length()) {
                return false;
            }
            for (int i = 0; i < word.length(); i++) {
                if (text[start + i] != word.charAt(i)) {
                    return false;
                }
            }
            return true;
        }

        boolean isSign(char sign) {
            return kind == SIGN && start < length && text[start] == sign;
        }

        boolean isShort() {
            return end - start <= 4;
        }

        int number() {
            int number = 0;
            for (int i = start; i < end && i < start + 4; i++) {
                number = 10 * number + text[i] - '0';
            }
            return number;
        }
    }

    /** Reads a SHED; every read.. method answers whether there was no FAULT in what it read. */
    private static final class Telling {
        private static final int CANT_STAND = 1;
        private static final int TOO_MUCH = 2;
        private static final int NO_VALUE = 3;
        private static final int HOLE_THERE = 4;
        private static final int TOLD_TWICE = 5;
        private static final int NO_CAUSE = 6;

        private static final int WITHIN_MOST = 6;
        private static final int NOTS_MOST = 6;
        // Bits of what is told but once: the settings' numbers, then these, then the causes.
        private static final int LEAK_TOLD = SETTINGS;
        private static final int HOLDS_TOLD = SETTINGS + 1;
        private static final int CAUSE_TOLD = SETTINGS + 2;

        private final Tokens tokens;
        private Shed into;
        private int told;
        private int got;
        private int fault;
        private int place;

        Telling(byte[] text, Shed into) {
            this.tokens = new Tokens(text);
            this.into = into;
        }

        int tell(int length, Shed shed) {
            into = shed;
            into.clear();
            told = 0;
            fault = 0;
            place = NONE;
            tokens.begin(length);
            if (tokens.isWord("tube")) {
                tokens.step();
                if (!readSettings(INCHES) || !readSign(';')) {
                    return fault;
                }
            }
            // Each line has a token and a sign at least, so there are never so many.
            for (int i = 0; i < TEXT_MOST && tokens.kind != Tokens.END; i++) {
                if (!readLine()) {
                    return fault;
                }
            }
            if (into.causes[THORN] + into.causes[KERB] + into.causes[SPOKE] + into.causes[VALVE] == 0) {
                refuse(NO_CAUSE);
            }
            return fault;
        }

        private boolean refuse(int why) {
            fault = why;
            place = tokens.start;
            return false;
        }

        private boolean readLine() {
            int setting = settingNamed();
            if (setting != NONE) {
                return readOnce(setting) && readSettings(setting) && readSign(';');
            }
            if (tokens.isWord("leak")) {
                return readOnce(LEAK_TOLD) && readExpr(into.leakRule, 0) && readSign(';');
            }
            if (tokens.isWord("holds")) {
                return readOnce(HOLDS_TOLD) && readExpr(into.holdsRule, 0) && readSign(';');
            }
            if (tokens.isWord("hole")) {
                return readHole() && readSign(';');
            }
            if (tokens.isWord("cause")) {
                return readCause() && readSign(';');
            }
            if (tokens.isWord("try")) {
                return readTry() && readSign(';');
            }
            if (tokens.isWord("rider")) {
                return readRider() && readSign(';');
            }
            return refuse(CANT_STAND);
        }

        private int settingNamed() {
            if (tokens.isWord("hand")) {
                return HAND;
            }
            if (tokens.isWord("miss")) {
                return MISS;
            }
            if (tokens.isWord("noise")) {
                return NOISE;
            }
            if (tokens.isWord("pressure")) {
                return PRESSURE;
            }
            if (tokens.isWord("mark")) {
                return MARK;
            }
            return tokens.isWord("clung") ? CLUNG : NONE;
        }

        private boolean readSettings(int first) {
            int last = first == CLUNG ? STILL : first;
            for (int i = first; i <= last && i < SETTINGS; i++) {
                int most = i == MARK ? into.inches() - 1 : SETTING_MOST[i];
                if (!readNumber(SETTING_LEAST[i], most)) {
                    return false;
                }
                into.settings[i] = got;
            }
            return true;
        }

        private boolean readHole() {
            if (into.holes.many >= HOLES_MOST) {
                return refuse(TOO_MUCH);
            }
            tokens.step();
            if (!readNumber(0, into.inches() - 1)) {
                return false;
            }
            int inch = got;
            int side = sideNamed();
            if (side == NONE) {
                return refuse(CANT_STAND);
            }
            if (into.holes.isAt(inch, side)) {
                return refuse(HOLE_THERE);
            }
            tokens.step();
            if (!readNumber(1, 24)) {
                return false;
            }
            boolean slow = tokens.isWord("slow");
            if (slow) {
                tokens.step();
            }
            into.holes.add(inch, side, got, slow);
            return true;
        }

        private int sideNamed() {
            if (tokens.isWord("outer")) {
                return OUTER;
            }
            if (tokens.isWord("left")) {
                return 1;
            }
            if (tokens.isWord("right")) {
                return 2;
            }
            return tokens.isWord("rim") ? RIM : NONE;
        }

        private boolean readCause() {
            tokens.step();
            int cause = causeNamed();
            if (cause == NONE) {
                return refuse(CANT_STAND);
            }
            if (!readOnce(CAUSE_TOLD + cause) || !readNumber(0, 99)) {
                return false;
            }
            into.causes[cause] = got;
            return true;
        }

        private int causeNamed() {
            if (tokens.isWord("thorn")) {
                return THORN;
            }
            if (tokens.isWord("kerb")) {
                return KERB;
            }
            if (tokens.isWord("spoke")) {
                return SPOKE;
            }
            return tokens.isWord("valve") ? VALVE : NONE;
        }

        private boolean readTry() {
            if (into.tries.many >= TRIES_MOST) {
                return refuse(TOO_MUCH);
            }
            tokens.step();
            if (!readNumber(1, 99)) {
                return false;
            }
            int cost = got;
            if (!readNumber(1, 99)) {
                return false;
            }
            into.tries.add(cost, got);
            return true;
        }

        private boolean readRider() {
            if (into.riders.many >= RIDERS_MOST) {
                return refuse(TOO_MUCH);
            }
            tokens.step();
            if (!readNumber(0, CELLS - 1)) {
                return false;
            }
            int from = got;
            if (!readNumber(0, CELLS - 1)) {
                return false;
            }
            int to = got;
            if (!readNumber(0, HOURS - 1)) {
                return false;
            }
            boolean flat = tokens.isWord("flat");
            if (!flat && !tokens.isWord("well")) {
                return refuse(CANT_STAND);
            }
            tokens.step();
            into.riders.add(from, to, got, flat);
            return true;
        }

        private boolean readOnce(int bit) {
            if ((told >> bit & 1) == 1) {
                return refuse(TOLD_TWICE);
            }
            told |= 1 << bit;
            tokens.step();
            return true;
        }

        private boolean readNumber(int least, int most) {
            if (tokens.kind != Tokens.NUMBER) {
                return refuse(CANT_STAND);
            }
            if (!tokens.isShort() || !isWithin(tokens.number(), least, most)) {
                return refuse(TOO_MUCH);
            }
            got = tokens.number();
            tokens.step();
            return true;
        }

        private boolean readSign(char sign) {
            if (!tokens.isSign(sign)) {
                return refuse(CANT_STAND);
            }
            tokens.step();
            return true;
        }

        /** The depth of an EXPR is how many others it stands within: none is read within six. */
        private boolean readExpr(Rule rule, int within) {
            if (within >= WITHIN_MOST) {
                return refuse(mayBeginExpr() ? TOO_MUCH : CANT_STAND);
            }
            if (!readAnd(rule, within)) {
                return false;
            }
            for (int i = 0; i < TEXT_MOST && tokens.isWord("or"); i++) {
                tokens.step();
                if (!readAnd(rule, within)) {
                    return false;
                }
                rule.put(Rule.OR);
            }
            return true;
        }

        private boolean mayBeginExpr() {
            return tokens.kind == Tokens.NUMBER || tokens.kind == Tokens.WORD || tokens.isSign('(');
        }

        private boolean readAnd(Rule rule, int within) {
            if (!readNot(rule, within)) {
                return false;
            }
            for (int i = 0; i < TEXT_MOST && tokens.isWord("and"); i++) {
                tokens.step();
                if (!readNot(rule, within)) {
                    return false;
                }
                rule.put(Rule.AND);
            }
            return true;
        }

        private boolean readNot(Rule rule, int within) {
            int nots = 0;
            while (nots < NOTS_MOST && tokens.isWord("not")) {
                nots++;
                tokens.step();
            }
            if (tokens.isWord("not")) {
                return refuse(TOO_MUCH);
            }
            if (!readTest(rule, within)) {
                return false;
            }
            for (int i = 0; i < nots; i++) {
                rule.put(Rule.NOT);
            }
            return true;
        }

        private boolean readTest(Rule rule, int within) {
            if (!readSum(rule, within)) {
                return false;
            }
            int test = tokens.isSign('<') ? Rule.LESS : Rule.SAME;
            if (test == Rule.SAME && !tokens.isSign('=')) {
                return true;
            }
            tokens.step();
            if (!readSum(rule, within)) {
                return false;
            }
            rule.put(test);
            return true;
        }

        private boolean readSum(Rule rule, int within) {
            if (!readProduct(rule, within)) {
                return false;
            }
            for (int i = 0; i < TEXT_MOST && (tokens.isSign('+') || tokens.isSign('-')); i++) {
                int step = tokens.isSign('+') ? Rule.PLUS : Rule.MINUS;
                tokens.step();
                if (!readProduct(rule, within)) {
                    return false;
                }
                rule.put(step);
            }
            return true;
        }

        private boolean readProduct(Rule rule, int within) {
            if (!readPart(rule, within)) {
                return false;
            }
            for (int i = 0; i < TEXT_MOST && (tokens.isSign('*') || tokens.isSign('/')); i++) {
                int step = tokens.isSign('*') ? Rule.TIMES : Rule.OVER;
                tokens.step();
                if (!readPart(rule, within)) {
                    return false;
                }
                rule.put(step);
            }
            return true;
        }

        private boolean readPart(Rule rule, int within) {
            if (tokens.isSign('(')) {
                tokens.step();
                return readExpr(rule, within + 1) && readSign(')');
            }
            if (tokens.kind == Tokens.WORD) {
                int value = rule == into.leakRule ? leakValueNamed() : holdsValueNamed();
                if (value == NONE) {
                    return refuse(NO_VALUE);
                }
                rule.putValue(value);
                tokens.step();
                return true;
            }
            // A NUMBER in an EXPR has no other bound than its digits.
            if (!readNumber(0, 9999)) {
                return false;
            }
            rule.put(got);
            return true;
        }

        private int leakValueNamed() {
            if (tokens.isWord("size")) {
                return Rule.SIZE;
            }
            if (tokens.isWord("side")) {
                return Rule.SIDE;
            }
            if (tokens.isWord("pressure")) {
                return Rule.PRESSURE_NOW;
            }
            if (tokens.isWord("minute")) {
                return Rule.MINUTE;
            }
            return tokens.isWord("load") ? Rule.LOAD : NONE;
        }

        private int holdsValueNamed() {
            if (tokens.isWord("size")) {
                return Rule.SIZE;
            }
            if (tokens.isWord("side")) {
                return Rule.SIDE;
            }
            if (tokens.isWord("minutes")) {
                return Rule.MINUTES;
            }
            if (tokens.isWord("cold")) {
                return Rule.COLD;
            }
            if (tokens.isWord("damp")) {
                return Rule.DAMP;
            }
            return tokens.isWord("near") ? Rule.NEAR : NONE;
        }
    }
}
