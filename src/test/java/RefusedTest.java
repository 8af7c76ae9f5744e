import java.util.LinkedHashMap;
import java.util.Map;
import java.util.NoSuchElementException;
import java.util.function.ToLongFunction;

/**
 * What a call that is refused or throws leaves as it was, and what a call that just asks does: two objects get the same
 * calls, one of them this call more, and then all that can be asked of them is held against each other, down to what
 * undo() and restore() bring back.
 */
public final class RefusedTest {
    private static final String TEXT = "tube 12;hand 3;hole 5 outer 10;hole 0 rim 4 slow;pressure 50;mark 2;clung 20 50;"
            + "miss 50;noise 90;try 3 1;try 1 1;rider 0 5 3 flat;leak size*pressure+minute;holds minutes+near;";
    private static final String OTHER = "tube 30;hand 9;miss 1;noise 2;pressure 3;mark 4;clung 5 6;hole 29 left 7;"
            + "hole 8 right 9 slow;try 9 9;rider 1 2 3 well;leak 7;holds 8;";
    private static final String NO_CAUSE = "cause thorn 0;cause kerb 0;cause spoke 0;cause valve 0;";
    private static final int MIN = Integer.MIN_VALUE;
    private static final int MAX = Integer.MAX_VALUE;

    private RefusedTest() {
    }

    public static void main(String[] args) {
        texts();
        acts();
        wrongWhats();
        wrongPlaces();
        wrongArguments();
        behindTheOther();
        asking();
        nothingThere();
        imageAlone();
        Due.end();
    }

    /** An object with a FAULT behind it, ACTS of each kind, a PLAN, an image, and STATUS of both kinds. */
    private static BucketTube acted() {
        BucketTube x = Due.tube(TEXT);
        x.minutes(3, true);
        x.dip(4, 2);
        x.patch(0, 60, 0, 0, Draws.seedOf(59));
        x.image();
        x.thorn(5);
        x.listen(1, 2);
        x.patch(0, 0, 0, 0, Draws.seedOf(0));
        x.pump();
        x.plan(7);
        x.dip(12, 1);
        Due.shed(x, "hand 3;frog;");
        return x;
    }

    /** The same with bytes on the tape. */
    private static BucketTube rich() {
        BucketTube x = acted();
        x.feed(1, 2, 3, 4, 5);
        return x;
    }

    private static long answer(BucketTube x, ToLongFunction<BucketTube> call) {
        try {
            return call.applyAsLong(x);
        } catch (NoSuchElementException e) {
            return Due.NSE;
        } catch (IllegalArgumentException e) {
            return Due.IAE;
        }
    }

    private static void shortly(Map<String, Long> told, String when, BucketTube x) {
        for (int what = 15; what <= 17; what++) {
            told.put(when + "count " + what, (long) x.count(what));
        }
        for (int hole = 0; hole < x.count(8); hole++) {
            told.put(when + "mended " + hole, (long) x.hole(hole, 4));
        }
        for (int inch = 0; inch < x.count(0); inch += 2) {
            told.put(when + "weight of inch " + inch, x.weight(4 * inch));
        }
    }

    private static Map<String, Long> told(BucketTube x) {
        Map<String, Long> told = new LinkedHashMap<>();
        for (int what = 0; what <= 20; what++) {
            told.put("count " + what, (long) x.count(what));
        }
        told.put("fault", (long) x.fault());
        for (int hole = 0; hole < x.count(8); hole++) {
            for (int what = 0; what < 5; what++) {
                told.put("hole " + hole + " " + what, (long) x.hole(hole, what));
            }
            int of = hole;
            told.put("holds " + hole, answer(x, y -> y.holds(of, 9, 8, 7)));
        }
        for (int inch = 0; inch < 12; inch++) {
            int at = inch;
            told.put("planned " + inch, answer(x, y -> y.planned(at)));
            told.put("feel " + inch, (long) x.feel(inch));
        }
        for (int place = 0; place < 48; place++) {
            told.put("weight " + place, x.weight(place));
        }
        told.put("leak", (long) x.leak(true));
        told.put("flat", (long) x.flat(false));
        told.put("next", (long) x.next(1));
        told.put("how long", (long) x.next(2));
        told.put("dark", (long) x.dark(0));
        told.put("tacks", (long) x.tacks(0));
        told.put("air", (long) x.air(1));
        told.put("seek", (long) x.seek(9, true, 0));
        undone(told, "undo ", x);
        told.put("restore", x.restore() ? 1L : 0L);
        shortly(told, "restored ", x);
        undone(told, "restored, undo ", x);
        return told;
    }

    private static void undone(Map<String, Long> told, String when, BucketTube x) {
        for (int i = 0; i < 12; i++) {
            long left = x.undo();
            told.put(when + i, left);
            if (left < 0) {
                return;
            }
            shortly(told, when + i + " ", x);
        }
    }

    /** The call answers what is due, and of all else just what is named is another than without it. */
    private static void leaves(String what, BucketTube x, BucketTube twin, long want, ToLongFunction<BucketTube> call,
            Map<String, Long> changed) {
        Due.due(what, want, answer(x, call));
        Map<String, Long> due = told(twin);
        due.putAll(changed);
        Map<String, Long> got = told(x);
        Due.due(what + ": as many things", due.size(), got.size());
        for (Map.Entry<String, Long> e : due.entrySet()) {
            Due.due(what + ": " + e.getKey(), e.getValue(), got.getOrDefault(e.getKey(), Long.MAX_VALUE));
        }
    }

    private static void nothing(String what, long want, ToLongFunction<BucketTube> call) {
        leaves(what, rich(), rich(), want, call, Map.of());
    }

    private static void throwsElement(String what, ToLongFunction<BucketTube> call) {
        nothing(what, Due.NSE, call);
    }

    private static void throwsArgument(String what, ToLongFunction<BucketTube> call) {
        nothing(what, Due.IAE, call);
    }

    /** Promises 2 to 4. */
    private static void texts() {
        throwsArgument("shed(-1)", x -> x.shed(-1));
        throwsArgument("shed(21) of 20", x -> x.shed(21));
        throwsArgument("shed(MIN)", x -> x.shed(MIN));
        throwsArgument("shed(MAX)", x -> x.shed(MAX));
        // The twenty bytes on the tape are no TEXT: a FAULT empties the tape, all else stays.
        leaves("shed with a FAULT", rich(), rich(), 1, x -> x.shed(20),
                Map.of("count 18", 0L, "count 19", 2L, "fault", 0L));
        leaves("shed with a FAULT at the end", acted(), acted(), 6, x -> Due.shed(x, OTHER + NO_CAUSE),
                Map.of("count 19", 2L, "fault", (long) (OTHER + NO_CAUSE).length()));
        leaves("shed that ends too soon", acted(), acted(), 1, x -> Due.shed(x, OTHER + "hole 1"),
                Map.of("count 19", 2L, "fault", OTHER.length() + 6L));
        // A text that just ends at its first n bytes is read so far alone.
        leaves("shed of less", acted(), acted(), 1, x -> {
            Due.feed(x, OTHER + "frog;");
            return x.shed(OTHER.length() + 1);
        }, Map.of("count 19", 2L, "fault", (long) OTHER.length()));
        BucketTube full = full();
        BucketTube twin = full();
        leaves("feed beyond 700", full, twin, -1, x -> x.feed(9, 9, 9, 9, 9), Map.of());
        BucketTube fits = Due.tube(TEXT);
        for (int i = 1; i <= 35; i++) {
            Due.due("feed " + i, 20 * i, fits.feed(0x20202020, 0x20202020, 0x20202020, 0x20202020, 0x20202020));
        }
        Due.due("feed beyond 700", -1, fits.feed(0x66666666, 0x20202020, 0x20202020, 0x20202020, 0x20202020));
        Due.due("feed beyond 700 once more", -1, fits.feed(0x66666666, 0, 0, 0, 0));
        Due.due("700 bytes", 700, fits.count(18));
        Due.due("no STATUS", 0, fits.count(19) + fits.count(20));
        Due.due("none came", 0, fits.shed(700));
    }

    private static BucketTube full() {
        BucketTube x = Due.tube(TEXT);
        x.dip(3, 3);
        for (int i = 0; i < 35; i++) {
            x.feed(i, i, i, i, i);
        }
        return x;
    }

    private static void refusedAct(String what, ToLongFunction<BucketTube> call) {
        leaves(what, rich(), rich(), -1, call, Map.of("count 20", 2L));
    }

    /** Promises 8, 12, 13, 34, 24. */
    private static void acts() {
        for (int many : new int[] {0, 601, -1, MIN, MAX}) {
            refusedAct("minutes " + many, x -> x.minutes(many, true));
            refusedAct("dip for " + many, x -> x.dip(0, many));
            refusedAct("listen for " + many, x -> x.listen(0, many));
        }
        for (int inch : new int[] {-1, 12, MIN, MAX}) {
            refusedAct("dip at " + inch, x -> x.dip(inch, 1));
            refusedAct("thorn at " + inch, x -> x.thorn(inch));
            refusedAct("dip at " + inch + " for 601", x -> x.dip(inch, 601));
        }
        for (int quarter : new int[] {-1, 4, MIN, MAX}) {
            refusedAct("listen at " + quarter, x -> x.listen(quarter, 600));
        }
        for (int hole : new int[] {-1, 2, MIN, MAX}) {
            throwsElement("patch of " + hole, x -> x.patch(hole, 61, 101, -1, 5) ? 1 : 0);
            throwsElement("patch of " + hole, x -> x.patch(hole, 0, 0, 0, 5) ? 1 : 0);
        }
        for (int minutes : new int[] {-1, 61, MIN, MAX}) {
            throwsArgument("patch by " + minutes, x -> x.patch(0, minutes, 0, 0, 5) ? 1 : 0);
        }
        for (int part : new int[] {-1, 101, MIN, MAX}) {
            throwsArgument("patch, cold " + part, x -> x.patch(0, 60, part, 0, 5) ? 1 : 0);
            throwsArgument("patch, damp " + part, x -> x.patch(0, 60, 0, part, 5) ? 1 : 0);
        }
    }

    /** Whats that there aren't: the numbers beside the first and the last one. */
    private static void wrongWhats() {
        for (int low : new int[] {-1, MIN}) {
            throwsElement("count " + low, x -> x.count(low));
            throwsElement("hole 0 " + low, x -> x.hole(0, low));
            throwsElement("next " + low, x -> x.next(low));
            throwsElement("seek " + low, x -> x.seek(5, true, low));
            throwsElement("ride " + low, x -> x.ride(0, low));
            throwsElement("best " + low, x -> x.best(0, 0, 0, 0, low));
            throwsElement("dark " + low, x -> x.dark(low));
            throwsElement("mean " + low, x -> x.mean(low));
            throwsElement("tacks " + low, x -> x.tacks(low));
            throwsElement("sweep " + low, x -> x.sweep(5, true, 1, low));
            throwsElement("seeks " + low, x -> x.seeks(5, 1, true, low));
            throwsElement("which " + low, x -> x.which(0, true, low));
            throwsElement("cause 0 " + low, x -> x.cause(0, low - (low == -1 ? 1 : 0)));
        }
        throwsElement("count 21", x -> x.count(21));
        throwsElement("hole 0 5", x -> x.hole(0, 5));
        throwsElement("next 3", x -> x.next(3));
        throwsElement("seek 2", x -> x.seek(5, true, 2));
        throwsElement("ride 2", x -> x.ride(0, 2));
        throwsElement("best 2", x -> x.best(0, 0, 0, 0, 2));
        throwsElement("mean 2", x -> x.mean(2));
        throwsElement("tacks 3", x -> x.tacks(3));
        throwsElement("sweep 2", x -> x.sweep(5, true, 1, 2));
        throwsElement("seeks 3", x -> x.seeks(5, 1, true, 3));
        throwsElement("which 2", x -> x.which(0, true, 2));
        throwsElement("cause 0 4", x -> x.cause(0, 4));
        for (int what : new int[] {MAX, 1000}) {
            throwsElement("count " + what, x -> x.count(what));
            throwsElement("hole 1 " + what, x -> x.hole(1, what));
            throwsElement("next " + what, x -> x.next(what));
            throwsElement("cause 1 " + what, x -> x.cause(1, what));
            nothing("dark " + what, -1, x -> x.dark(what));
        }
    }

    private static void wrongPlaces() {
        for (int hole : new int[] {-1, 2, MIN, MAX}) {
            throwsElement("hole " + hole, x -> x.hole(hole, 0));
            throwsElement("holds of " + hole, x -> x.holds(hole, 0, 0, 0));
            throwsElement("glue of " + hole, x -> x.glue(hole, 0, 0, 0));
            throwsElement("cause of " + hole, x -> x.cause(hole, 0));
            throwsElement("likeliest cause of " + hole, x -> x.cause(hole, -1));
        }
        for (int place : new int[] {-1, 48, MIN, MAX}) {
            throwsElement("weight " + place, x -> x.weight(place));
            throwsElement("odds " + place, x -> x.odds(place));
        }
        for (int inch : new int[] {-1, 12, MIN, MAX}) {
            throwsElement("planned " + inch, x -> x.planned(inch));
            throwsElement("feel " + inch, x -> x.feel(inch));
            throwsElement("fits " + inch, x -> x.fits(inch));
            throwsElement("ofInch " + inch, x -> x.ofInch(inch));
        }
        for (int side : new int[] {-1, 4, MIN, MAX}) {
            throwsElement("ofSide " + side, x -> x.ofSide(side));
        }
        for (int cell : new int[] {-1, 40, MIN, MAX}) {
            throwsElement("cell " + cell, x -> x.cell(cell));
        }
    }

    private static void wrongArguments() {
        for (int low : new int[] {-1, MIN}) {
            throwsArgument("plan " + low, x -> x.plan(low));
            throwsArgument("air " + low, x -> x.air(low));
            throwsArgument("line " + low, x -> x.line(low));
            throwsArgument("holds by " + low, x -> x.holds(0, low, 0, 0));
            throwsArgument("holds, cold " + low, x -> x.holds(0, 0, low, 0));
            throwsArgument("holds, damp " + low, x -> x.holds(0, 0, 0, low));
            throwsArgument("glue, cold " + low, x -> x.glue(0, low, 0, 0));
            throwsArgument("glue, damp " + low, x -> x.glue(0, 0, low, 0));
            throwsArgument("glue for " + low, x -> x.glue(0, 0, 0, low));
            throwsArgument("ride " + low, x -> x.ride(low, 0));
            throwsArgument("best " + low, x -> x.best(low, 0, 0, 0, 0));
            throwsArgument("best, cold " + low, x -> x.best(0, low, 0, 0, 0));
            throwsArgument("best, damp " + low, x -> x.best(0, 0, low, 0, 1));
            throwsArgument("best for " + low, x -> x.best(0, 0, 0, low, 1));
            throwsArgument("seeks of " + low, x -> x.seeks(5, low, true, 0));
            throwsArgument("enough " + low, x -> x.enough(low));
            throwsArgument("flatIf " + low, x -> x.flatIf(low, true));
            throwsArgument("rides " + low, x -> x.rides(low));
            throwsArgument("sweep for " + low, x -> x.sweep(5, true, low, 0));
        }
        throwsArgument("sweep for 0", x -> x.sweep(5, true, 0, 1));
        throwsArgument("rides 0", x -> x.rides(0));
        for (int high : new int[] {0, MAX - 1001}) {
            throwsArgument("plan 601", x -> x.plan(601 + high));
            throwsArgument("air 61", x -> x.air(61 + high));
            throwsArgument("line 1001", x -> x.line(1001 + high));
            throwsArgument("holds by 61", x -> x.holds(0, 61 + high, 0, 0));
            throwsArgument("holds, cold 101", x -> x.holds(1, 0, 101 + high, 0));
            throwsArgument("holds, damp 101", x -> x.holds(1, 0, 0, 101 + high));
            throwsArgument("glue, cold 101", x -> x.glue(1, 101 + high, 0, 0));
            throwsArgument("glue, damp 101", x -> x.glue(1, 0, 101 + high, 0));
            throwsArgument("glue for 101", x -> x.glue(1, 0, 0, 101 + high));
            throwsArgument("ride 61", x -> x.ride(61 + high, 1));
            throwsArgument("best 61", x -> x.best(61 + high, 0, 0, 0, 1));
            throwsArgument("best, cold 101", x -> x.best(0, 101 + high, 0, 0, 0));
            throwsArgument("best, damp 101", x -> x.best(0, 0, 101 + high, 0, 0));
            throwsArgument("best for 101", x -> x.best(0, 0, 0, 101 + high, 0));
            throwsArgument("seeks of 31", x -> x.seeks(5, 31 + high, true, 2));
            throwsArgument("enough 1001", x -> x.enough(1001 + high));
            throwsArgument("flatIf 4", x -> x.flatIf(4 + high, true));
            throwsArgument("rides 61", x -> x.rides(61 + high));
            throwsArgument("sweep for 61", x -> x.sweep(5, true, 61 + high, 1));
        }
        for (int bit = 2; bit < 32; bit++) {
            int holes = 1 << bit;
            throwsArgument("flatIf bit " + bit, x -> x.flatIf(holes, false));
        }
        throwsArgument("flatIf with a bit too many", x -> x.flatIf(7, false));
    }

    /** IllegalArgumentException stands behind NoSuchElementException: where both are due, it is the latter. */
    private static void behindTheOther() {
        throwsElement("holds", x -> x.holds(2, 61, 101, 101));
        throwsElement("glue", x -> x.glue(2, 101, 101, 101));
        throwsElement("ride", x -> x.ride(61, 2));
        throwsElement("best", x -> x.best(61, 101, 101, 101, 2));
        throwsElement("sweep", x -> x.sweep(5, true, 0, 2));
        throwsElement("seeks", x -> x.seeks(5, 31, true, 3));
        throwsElement("cause of none", x -> x.cause(2, 4));
        throwsElement("hole", x -> x.hole(2, 5));
    }

    /** Calls that just ask leave all as it was: what one believes, a PLAN, the image, ACTS, THE PRESSURE. */
    private static void asks(String what, ToLongFunction<BucketTube> call) {
        long want = answer(rich(), call);
        Due.due(what + " throws nothing", 1, want != Due.NSE && want != Due.IAE ? 1 : 0);
        nothing(what, want, x -> {
            answer(x, call);
            return answer(x, call);
        });
    }

    private static void asking() {
        asks("fault", BucketTube::fault);
        asks("count", x -> x.count(20));
        asks("hole", x -> x.hole(1, 4));
        asks("leak", x -> x.leak(true));
        asks("flat", x -> x.flat(true));
        asks("flatIf", x -> x.flatIf(3, false));
        asks("which", x -> x.which(0, true, 0));
        asks("weight", x -> x.weight(47));
        asks("odds", x -> x.odds(0));
        asks("next", x -> x.next(2));
        asks("planned", x -> x.planned(11));
        asks("seek", x -> x.seek(7, true, 0));
        asks("seeks", x -> x.seeks(7, 30, true, 1));
        asks("sweep", x -> x.sweep(7, true, 60, 0));
        asks("air", x -> x.air(60));
        asks("line", x -> x.line(1000));
        asks("holds", x -> x.holds(1, 60, 100, 100));
        asks("glue", x -> x.glue(1, 100, 100, 100));
        asks("feel", x -> x.feel(11));
        asks("fits", x -> x.fits(11));
        asks("cause", x -> x.cause(1, -1));
        asks("ride", x -> x.ride(60, 0));
        asks("best", x -> x.best(60, 100, 100, 100, 1));
        asks("dark", x -> x.dark(1));
        asks("mean", x -> x.mean(0));
        asks("tacks", x -> x.tacks(2));
        asks("cell", x -> x.cell(39));
        asks("quarter", BucketTube::quarter);
        asks("enough", x -> x.enough(0));
        asks("ofInch", x -> x.ofInch(11));
        asks("ofSide", x -> x.ofSide(3));
        asks("rides", x -> x.rides(60));
        // A PLAN is kept in place of the one before, and that is all.
        BucketTube x = rich();
        BucketTube twin = rich();
        Map<String, Long> planned = new LinkedHashMap<>();
        for (int inch = 0; inch < 12; inch++) {
            planned.put("planned " + inch, 0L);
        }
        leaves("plan of none", x, twin, 0, y -> y.plan(0), planned);
    }

    /** Nothing to undo, to bring back, to tell. */
    private static void nothingThere() {
        BucketTube x = Due.tube(TEXT);
        BucketTube twin = Due.tube(TEXT);
        leaves("undo of none", x, twin, -1, BucketTube::undo, Map.of());
        leaves("restore of none", Due.tube(TEXT), Due.tube(TEXT), 0, y -> y.restore() ? 1 : 0, Map.of());
        leaves("planned without a PLAN", Due.tube(TEXT), Due.tube(TEXT), Due.NSE, y -> y.planned(0), Map.of());
        leaves("shed(1) of an empty tape", Due.tube(TEXT), Due.tube(TEXT), Due.IAE, y -> y.shed(1), Map.of());
        BucketTube bare = new BucketTube();
        Due.due("patch without HOLES", Due.NSE, () -> bare.patch(0, 0, 0, 0, 0) ? 1 : 0);
        Due.due("holds without HOLES", Due.NSE, () -> bare.holds(0, 0, 0, 0));
        Due.due("glue without HOLES", Due.NSE, () -> bare.glue(0, 0, 0, 0));
        Due.due("cause without HOLES", Due.NSE, () -> bare.cause(0, -1));
        Due.due("hole without HOLES", Due.NSE, () -> bare.hole(0, 0));
        Due.due("flatIf without HOLES", Due.IAE, () -> bare.flatIf(1, false));
        Due.due("no ACT", 0, bare.count(17) + bare.count(20));
    }

    /** An image changes nothing but what restore() brings back; a second restore() brings the same. */
    private static void imageAlone() {
        BucketTube x = rich();
        BucketTube twin = rich();
        long acts = x.count(17);
        x.image();
        Due.due("an image is no ACT", acts, x.count(17));
        x.minutes(9, true);
        x.dip(1, 1);
        x.undo();
        x.undo();
        x.undo();
        x.undo();
        x.restore();
        x.pump();
        x.patch(1, 60, 0, 0, Draws.seedOf(3));
        Map<String, Long> due = told(twin);
        Due.due("restored once more", 1, x.restore() ? 1 : 0);
        Map<String, Long> got = told(x);
        for (Map.Entry<String, Long> e : due.entrySet()) {
            if (!e.getKey().startsWith("restored")) {
                Due.due("as the image: " + e.getKey(), e.getValue(), got.getOrDefault(e.getKey(), Long.MAX_VALUE));
            }
        }
    }
}
