import java.util.function.IntPredicate;

/** Terms, parts 3 and 6: bounds of WEIGHTS, DIPS, LISTENING, NEXT, PLANS, SEEKING, AIR, THORNS, SWEEPS, ENOUGH. */
public final class BeliefEdgeTest {
    private static final String NONE_BUT = "cause thorn 0;cause kerb 0;cause spoke 0;cause valve 0;";
    private static final long BILLION = 1000000000L;
    private static final long MOST = 1000000000000000L;

    private BeliefEdgeTest() {
    }

    public static void main(String[] args) {
        weightsAtFirst();
        dipsLookAt();
        quarters();
        secondsCutDown();
        secondsOfAnAct();
        oddsCutDown();
        allAreZero();
        likeliest();
        nextOfLikeOnes();
        nextRound();
        howLong();
        plans();
        planBySecond();
        drawsOfMiss();
        drawsInOrder();
        whoIsLookedAt();
        lastSecondOfSeeking();
        seekingSeeds();
        air();
        theLine();
        thorns();
        thornMost();
        theQuarter();
        sweeps();
        sweepSeconds();
        enough();
        ofInchesAndSides();
        oneIsLeft();
        asOneBelievesNow();
        nothingElse();
        Due.end();
    }

    private static void due(String what, long want, long got) {
        Due.due(what, want, got);
    }

    /** Just this CAUSE has a WEIGHT. */
    private static String only(String cause, int weight) {
        return NONE_BUT.replace(cause + " 0", cause + " " + weight);
    }

    private static void weightsAtFirst() {
        for (int inches : new int[] {12, 13, 48, 83, 84}) {
            String tube = "tube " + inches + ";";
            for (int weight : new int[] {1, 99}) {
                BucketTube thorn = Due.tube(tube + only("thorn", weight));
                BucketTube kerb = Due.tube(tube + only("kerb", weight));
                BucketTube spoke = Due.tube(tube + only("spoke", weight));
                BucketTube valve = Due.tube(tube + only("valve", weight));
                for (int inch : new int[] {0, 1, inches / 2, inches - 1}) {
                    for (int side = 0; side < 4; side++) {
                        int place = 4 * inch + side;
                        due(tube + "thorn", side == 0 ? weight * BILLION / inches : 0, thorn.weight(place));
                        due(tube + "kerb", side == 1 || side == 2 ? weight * BILLION / (2 * inches) : 0, kerb.weight(place));
                        due(tube + "spoke", side == 3 ? weight * BILLION / inches : 0, spoke.weight(place));
                        due(tube + "valve", place == 3 ? weight * BILLION : 0, valve.weight(place));
                    }
                }
            }
        }
        BucketTube x = Due.tube("tube 83;cause spoke 99;cause valve 98;");
        due("together", 99 * BILLION / 83 + 98 * BILLION, x.weight(3));
        due("spoke alone", 99 * BILLION / 83, x.weight(331));
    }

    /** Just these INCHES have their WEIGHTS lessened by so much of 100. */
    private static void lessened(String what, BucketTube x, int inches, int ofHundred, IntPredicate isLessened) {
        for (int place = 0; place < 4 * inches; place++) {
            int side = place % 4;
            long at = side == 0 ? 5 * BILLION / inches : side == 3 ? BILLION / inches + (place == 3 ? BILLION : 0)
                    : 2 * BILLION / (2 * inches);
            long want = isLessened.test(place / 4) ? at * ofHundred / 100 : at;
            due(what + ", PLACE " + place, want, x.weight(place));
        }
    }

    /** HAND INCHES from that of the DIP on, round. */
    private static void dipsLookAt() {
        for (int inches : new int[] {12, 13, 84}) {
            for (int hand : new int[] {1, 2, 3, 8, 9}) {
                for (int from : new int[] {0, 1, inches - hand - 1, inches - hand, inches - hand + 1, inches - 2, inches - 1}) {
                    int at = from % inches;
                    BucketTube x = Due.tube("tube " + inches + ";hand " + hand + ";miss 7;noise 11;");
                    x.dip(at, 1);
                    lessened("dip of " + hand + " at " + at + " of " + inches, x, inches, 7,
                            inch -> (inch - at + inches) % inches < hand);
                }
            }
        }
    }

    /** An INCH by 4, by INCHES, cut down, for each number of INCHES. */
    private static void quarters() {
        for (int i = 12; i <= 84; i++) {
            int inches = i;
            for (int q = 0; q < 4; q++) {
                int quarter = q;
                BucketTube x = Due.tube("tube " + inches + ";miss 7;noise 11;");
                x.listen(quarter, 1);
                lessened("listen at " + quarter + " of " + inches, x, inches, 11,
                        inch -> quarter * inches <= 4 * inch && 4 * inch < (quarter + 1) * inches);
            }
        }
    }

    private static void secondsCutDown() {
        // 19 by 99, by 100, cut down, goes by ones, not by the hundredth part.
        BucketTube x = Due.tube("tube 84;hand 1;miss 99;" + only("spoke", 1));
        long weight = BILLION / 84;
        for (int second = 1; second <= 40; second++) {
            x.dip(83, 1);
            weight = weight * 99 / 100;
            due("second " + second, weight, x.weight(335));
        }
        BucketTube y = Due.tube("tube 84;hand 1;miss 99;" + only("spoke", 1));
        y.dip(83, 40);
        due("forty in one DIP", weight, y.weight(335));
        BucketTube z = Due.tube("tube 84;noise 99;" + only("spoke", 1));
        z.listen(3, 40);
        due("forty of LISTENING", weight, z.weight(335));
        BucketTube one = Due.tube("tube 12;hand 1;miss 1;noise 1;" + only("valve", 1));
        long[] left = {10000000, 100000, 1000, 10, 0, 0};
        for (long due : left) {
            one.dip(0, 1);
            due("by 1 of 100", due, one.weight(3));
        }
        for (int i = 0; i < left.length; i++) {
            one.undo();
        }
        for (long due : left) {
            one.listen(0, 1);
            due("by 1 of 100", due, one.weight(3));
        }
    }

    /** 1 to 600 SECONDS. */
    private static void secondsOfAnAct() {
        BucketTube x = Due.tube("tube 12;hand 1;miss 99;noise 99;" + only("valve", 99));
        due("none", -1, x.dip(0, 0));
        due("none", -1, x.listen(0, 0));
        due("601", -1, x.dip(0, 601));
        due("601", -1, x.listen(0, 601));
        due("stays", 99 * BILLION, x.weight(3));
        due("no ACT", 0, x.count(17));
        due("one", 3, x.dip(0, 1));
        due("one", 99 * BILLION / 100 * 99, x.weight(3));
        long weight = 99 * BILLION / 100 * 99;
        due("600", 3, x.dip(0, 600));
        for (int i = 0; i < 600; i++) {
            weight = weight * 99 / 100;
        }
        due("600 SECONDS", weight, x.weight(3));
        x.undo();
        due("undone all at once", 99 * BILLION / 100 * 99, x.weight(3));
        due("600", 3, x.listen(0, 600));
        due("600 SECONDS", weight, x.weight(3));
        due("two ACTS", 2, x.count(17));
        due("refused", 4, x.count(20));
    }

    private static void oddsCutDown() {
        // 12 like ones: 83 of 1000 each, the rest is cut down.
        BucketTube x = Due.tube("tube 12;" + only("thorn", 12));
        due("83.3", 83, x.odds(0));
        due("all of them", 999 / 12, x.odds(44));
        due("another SIDE", 0, x.odds(1));
        BucketTube y = Due.tube("tube 20;" + only("kerb", 1));
        due("just 25", 25, y.odds(1));
        BucketTube z = Due.tube("tube 12;" + only("valve", 1));
        due("all", 1000, z.odds(3));
        due("none", 0, z.odds(0));
        due("all of an INCH", 1000, z.ofInch(0));
        due("none of an INCH", 0, z.ofInch(11));
        due("all of a SIDE", 1000, z.ofSide(3));
        due("none of a SIDE", 0, z.ofSide(0));
        // 999 of 1000 and a bit: a valve of 99 among spokes of 1, 12 of them 83333333 each.
        BucketTube w = Due.tube("tube 12;cause thorn 0;cause kerb 0;cause spoke 1;cause valve 99;");
        long all = 12 * (BILLION / 12) + 99 * BILLION;
        due("most", (BILLION / 12 + 99 * BILLION) * 1000 / all, w.odds(3));
        due("below one", 0, w.odds(7));
    }

    private static void allAreZero() {
        BucketTube x = Due.tube("tube 12;hand 9;miss 1;");
        x.dip(0, 600);
        due("three INCHES are left", 333, x.ofInch(9));
        due("LIKELIEST", 36, x.dip(9, 1));
        x.dip(9, 600);
        for (int place = 0; place < 48; place++) {
            due("WEIGHT", 0, x.weight(place));
            due("ODDS", 0, x.odds(place));
        }
        for (int inch = 0; inch < 12; inch++) {
            due("of an INCH", 0, x.ofInch(inch));
        }
        for (int side = 0; side < 4; side++) {
            due("of a SIDE", 0, x.ofSide(side));
        }
        due("LIKELIEST", 0, x.next(0));
        due("NEXT", 0, x.next(1));
        due("HOW LONG", 600, x.next(2));
        due("THE QUARTER", 0, x.quarter());
        due("ENOUGH", 0, x.enough(0));
        due("a THORN leaves 0", 0, x.thorn(7));
        due("WEIGHT", 0, x.weight(28));
        due("a PLAN", 1, x.plan(600));
        due("all at 0", 600, x.planned(0));
    }

    private static void likeliest() {
        BucketTube x = Due.tube("tube 12;hand 1;miss 50;noise 50;" + only("thorn", 12));
        due("of like ones the least", 0, x.next(0));
        due("the first is less", 4, x.dip(0, 1));
        due("the last is less", 4, x.dip(11, 1));
        due("the second is less", 8, x.dip(1, 1));
        for (int inch = 2; inch < 11; inch++) {
            due("one behind the other", inch < 10 ? 4 * inch + 4 : 0, x.dip(inch, 1));
        }
        due("all alike again", 0, x.next(0));
        due("all but the first three", 12, x.listen(0, 1));
        BucketTube sides = Due.tube("tube 12;cause thorn 1;cause kerb 2;cause spoke 1;cause valve 0;");
        due("of like SIDES the least", 0, sides.next(0));
        BucketTube kerb = Due.tube("tube 12;cause thorn 1;cause kerb 3;cause spoke 1;cause valve 0;");
        due("left ahead of right", 1, kerb.next(0));
        BucketTube last = Due.tube("tube 12;cause thorn 0;cause kerb 0;cause spoke 1;cause valve 0;hand 9;miss 50;");
        last.dip(0, 1);
        last.dip(2, 1);
        due("the last INCH alone", 47, last.next(0));
    }

    private static void nextOfLikeOnes() {
        for (int hand = 1; hand <= 9; hand++) {
            BucketTube x = Due.tube("tube 12;hand " + hand + ";miss 50;" + only("thorn", 12));
            due("all alike", 0, x.next(1));
            x.dip(0, 1);
            // The first INCH at which the DIP looks at as many as can be of those that are left.
            due("behind it, HAND " + hand, Math.min(hand, 12 - hand), x.next(1));
        }
    }

    private static void nextRound() {
        // The INCHES 11 and 0 alone, behind and ahead of the seam.
        BucketTube x = Due.tube("tube 12;hand 2;miss 1;" + only("thorn", 12));
        for (int inch = 1; inch < 10; inch += 2) {
            x.dip(inch, 1);
        }
        due("the two round the seam", 11, x.next(1));
        BucketTube y = Due.tube("tube 12;hand 2;miss 1;mark 11;" + only("thorn", 12));
        // FEELS 10 by 11: 11 (11 and 11) and 1 (11 less 1).
        y.thorn(10);
        due("11 with 0, 0 with 1, 1 with 2: like ones", 0, y.next(1));
        y.dip(0, 600);
        due("11 with 10, as 0 is empty", 10, y.next(1));
        for (int hand = 1; hand <= 9; hand++) {
            BucketTube z = Due.tube("tube 12;hand " + hand + ";" + only("valve", 1));
            // Each DIP that looks at INCH 0 is as good: 0 is the least of them.
            due("at it", 0, z.next(1));
        }
    }

    /** 1 at least, 600 at most. */
    private static void howLong() {
        String tube = "hand 1;miss 99;cause thorn 0;cause kerb 0;";
        due("598", 598, Due.tube("tube 81;" + tube + "cause spoke 1;cause valve 5;").next(2));
        due("599", 599, Due.tube("tube 82;" + tube + "cause spoke 1;cause valve 5;").next(2));
        due("600", 600, Due.tube("tube 69;" + tube + "cause spoke 1;cause valve 6;").next(2));
        due("601 are 600", 600, Due.tube("tube 83;" + tube + "cause spoke 1;cause valve 5;").next(2));
        due("for ever is 600", 600, Due.tube(only("valve", 99)).next(2));
        due("1 at least", 1, Due.tube("tube 12;hand 1;miss 99;" + only("thorn", 1)).next(2));
        BucketTube x = Due.tube("tube 82;" + tube + "cause spoke 1;cause valve 5;");
        x.dip(0, 598);
        due("one is left", 1, x.next(2));
        due("the same INCH", 0, x.next(1));
        x.dip(0, 1);
        due("another INCH", 1, x.next(1));
        BucketTube two = Due.tube("tube 12;hand 1;miss 50;" + only("spoke", 1).replace("valve 0", "valve 1"));
        // 1083 by halves is as 83 behind 4: 541, 270, 135, 67.
        due("till another one is more", 4, two.next(2));
    }

    /** 0 to 600 SECONDS; it is kept till the next PLAN or SHED. */
    private static void plans() {
        BucketTube x = Due.tube("tube 12;hand 1;miss 50;" + only("thorn", 1));
        Due.due("none kept", Due.NSE, () -> x.planned(0));
        due("none", 0, x.plan(0));
        for (int inch = 0; inch < 12; inch++) {
            due("none at " + inch, 0, x.planned(inch));
        }
        due("one", 1, x.plan(1));
        due("at 0", 1, x.planned(0));
        due("11 of them", 11, x.plan(11));
        due("the 11th", 1, x.planned(10));
        due("not the 12th", 0, x.planned(11));
        due("12 of them", 12, x.plan(12));
        due("the 12th", 1, x.planned(11));
        due("13: from 0 on again", 12, x.plan(13));
        due("at 0 again", 2, x.planned(0));
        due("600", 12, x.plan(600));
        int all = 0;
        for (int inch = 0; inch < 12; inch++) {
            all += x.planned(inch);
        }
        due("all 600", 600, all);
        Due.due("601", Due.IAE, () -> x.plan(601));
        Due.due("below 0", Due.IAE, () -> x.plan(-1));
        due("what one believes stays", BILLION / 12, x.weight(0));
        due("no ACT", 0, x.count(17));
        x.thorn(4);
        x.undo();
        x.image();
        x.restore();
        // 83333333 by halves is 0 behind 27 SECONDS; from then on NEXT is 0.
        due("kept still", 27, x.planned(11));
        due("kept still", 600 - 11 * 27, x.planned(0));
        due("one INCH of all", 1, Due.tube(only("valve", 1)).plan(600));
        BucketTube last = Due.tube("tube 84;" + only("valve", 1));
        due("none", 0, last.plan(0));
        due("the last INCH", 0, last.planned(83));
        Due.due("none behind it", Due.NSE, () -> last.planned(84));
        // A shorter tube has not the INCHES of a longer one, its PLAN is its own.
        Due.shed(last, "tube 12;");
        Due.due("gone with the SHED", Due.NSE, () -> last.planned(0));
        last.plan(1);
        Due.due("no such INCH any more", Due.NSE, () -> last.planned(12));
    }

    /** Each SECOND of a PLAN is a DIP at NEXT as it is by then. */
    private static void planBySecond() {
        String text = "tube 13;hand 4;miss 70;cause thorn 9;cause kerb 7;";
        BucketTube x = Due.tube(text);
        BucketTube step = Due.tube(text);
        int[] seconds = new int[13];
        for (int second = 1; second <= 60; second++) {
            int at = step.next(1);
            seconds[at]++;
            step.dip(at, 1);
        }
        x.plan(60);
        int inches = 0;
        for (int inch = 0; inch < 13; inch++) {
            due("SECONDS at " + inch, seconds[inch], x.planned(inch));
            inches += seconds[inch] > 0 ? 1 : 0;
        }
        due("at so many INCHES", inches, x.plan(60));
    }

    /** A DRAW of MISS or more shows a HOLE. */
    private static void drawsOfMiss() {
        for (int miss : new int[] {1, 2, 50, 98, 99}) {
            BucketTube x = Due.tube("hole 0 rim 1;miss " + miss + ";" + only("valve", 1));
            int just = Draws.seedOf(miss, miss);
            int below = Draws.seedOf(miss - 1, miss);
            due("MISS " + miss, 1, x.seek(just, false, 0));
            due("one below", 2, x.seek(below, false, 0));
            due("MISS, sweep", 1, x.sweep(just, false, 60, 0));
            due("one below, sweep", 2, x.sweep(below, false, 60, 0));
            due("0 shows nothing", 2, x.seek(Draws.seedOf(0, 99), false, 0));
            due("99 shows it", 1, x.seek(Draws.seedOf(99), false, 0));
        }
    }

    /** A DRAW for each HOLE that leaks and is looked at, in their order; by like SECONDS the least HOLE. */
    private static void drawsInOrder() {
        String three = "hole 2 rim 1;hole 0 rim 1;hole 1 rim 1;miss 60;" + only("valve", 1);
        BucketTube x = Due.tube(three);
        int[][] draws = {{60, 60, 60}, {59, 60, 60}, {59, 59, 60}, {59, 60, 0}, {60, 0, 0}};
        int[] holes = {0, 1, 2, 1, 0};
        for (int i = 0; i < draws.length; i++) {
            int seed = Draws.seedOf(draws[i]);
            due("SECONDS " + i, 1, x.seek(seed, false, 0));
            due("HOLE " + i, holes[i], x.seek(seed, false, 1));
            due("SECONDS " + i, 1, x.sweep(seed, false, 60, 0));
            due("HOLE " + i, holes[i], x.sweep(seed, false, 60, 1));
        }
        int fourth = Draws.seedShown(60, false, false, false, true);
        due("the next SECOND", 2, x.seek(fourth, false, 0));
        due("the first HOLE again", 0, x.seek(fourth, false, 1));
    }

    private static void whoIsLookedAt() {
        // Seed's first DRAW shows, its second doesn't, its third does.
        int seed = Draws.seedOf(60, 0, 60);
        BucketTube x = Due.tube("hole 47 rim 1;hole 3 rim 1;hole 2 rim 1;miss 60;" + only("valve", 1));
        due("from 0 on 0, 1, 2 are looked at", 2, x.seek(seed, false, 1));
        due("one DRAW alone", 1, x.seek(seed, false, 0));
        int other = Draws.seedOf(0, 60);
        due("none for those that aren't looked at", 2, x.seek(other, false, 0));
        BucketTube slow = Due.tube("hole 0 rim 1 slow;hole 1 rim 1;miss 60;" + only("valve", 1));
        due("a SLOW one draws under load", 0, slow.seek(seed, true, 1));
        due("a SLOW one draws not without", 1, slow.seek(seed, false, 1));
        due("the same", 1, slow.sweep(seed, false, 60, 1));
        slow.patch(1, 60, 0, 0, 1);
        due("a MENDED one draws not", 0, slow.seek(seed, true, 1));
        due("none leaks", -1, slow.seek(seed, false, 0));
        due("none leaks", -1, slow.seek(seed, false, 1));
        due("none leaks", -1, slow.sweep(seed, false, 60, 0));
        slow.patch(0, 60, 0, 0, 1);
        due("both mended", -1, slow.seek(seed, true, 0));
        slow.undo();
        due("undone", 0, slow.seek(seed, true, 1));
        BucketTube dry = Due.tube("hole 0 rim 1;miss 60;leak 0;" + only("valve", 1));
        due("one that loses nothing leaks all the same", 1, dry.seek(seed, false, 0));
    }

    /** 600 SECONDS at most. */
    private static void lastSecondOfSeeking() {
        BucketTube x = Due.tube("hole 0 rim 1;miss 99;" + only("valve", 1));
        for (int number : new int[] {1, 2, 599, 600}) {
            int seed = Draws.shownAt(number);
            due("SECOND " + number, number, x.seek(seed, false, 0));
            due("HOLE", 0, x.seek(seed, false, 1));
            due("together", number, x.seeks(seed, 1, false, 1));
            due("the most", number, x.seeks(seed, 1, false, 2));
        }
        for (int number : new int[] {601, 602}) {
            int seed = Draws.shownAt(number);
            due("SECOND " + number, -1, x.seek(seed, false, 0));
            due("HOLE", -1, x.seek(seed, false, 1));
            due("none of one", 0, x.seeks(seed, 1, false, 0));
            due("none of one", 0, x.seeks(seed, 1, false, 1));
            due("none of one", 0, x.seeks(seed, 1, false, 2));
        }
        // A sweep of one DIP at a time, 60 each: 0 is looked at in SECONDS 1 to 60 of each 12 by 60.
        BucketTube y = Due.tube("tube 12;hand 6;hole 0 rim 1;miss 99;");
        due("the 60th", 60, y.sweep(Draws.shownAt(60), false, 60, 0));
        due("the 61st is the 121st", 121, y.sweep(Draws.shownAt(61), false, 60, 0));
        due("the 300th", 540, y.sweep(Draws.shownAt(300), false, 60, 0));
        due("the 301st is none", -1, y.sweep(Draws.shownAt(301), false, 60, 0));
    }

    /** SEEDS s, s and 1 ..: 0 to 30 of them, and they wrap. */
    private static void seekingSeeds() {
        for (int from : new int[] {0, 7, Integer.MAX_VALUE - 10, Integer.MIN_VALUE, -5}) {
            BucketTube x = Due.tube("hole 0 rim 1;miss 90;" + only("valve", 1));
            int finds = 0;
            int together = 0;
            int most = 0;
            for (int many = 0; many <= 30; many++) {
                due("finds of " + many, finds, x.seeks(from, many, true, 0));
                due("SECONDS of " + many, together, x.seeks(from, many, true, 1));
                due("the most of " + many, most, x.seeks(from, many, true, 2));
                int seconds = x.seek(from + many, true, 0);
                finds += seconds > 0 ? 1 : 0;
                together += Math.max(seconds, 0);
                most = Math.max(seconds, most);
            }
        }
        BucketTube y = Due.tube("hole 0 rim 1;");
        Due.due("31", Due.IAE, () -> y.seeks(0, 31, true, 0));
        Due.due("below 0", Due.IAE, () -> y.seeks(0, -1, true, 0));
        BucketTube none = Due.tube("hole 20 rim 1;" + only("valve", 1));
        due("none of 30", 0, none.seeks(0, 30, true, 0));
        due("none of 30", 0, none.seeks(0, 30, true, 1));
        due("none of 30", 0, none.seeks(0, 30, true, 2));
    }

    private static void air() {
        for (int clung : new int[] {0, 1, 30, 98, 99}) {
            for (int still : new int[] {1, 50, 99}) {
                BucketTube x = Due.tube("clung " + clung + " " + still + ";");
                long left = clung * BILLION;
                long holes = (100 - clung) * BILLION;
                for (int t = 0; t <= 60; t++) {
                    due("clung " + clung + " " + still + " at " + t, holes * 1000 / (holes + left), x.air(t));
                    left = left * still / 100;
                }
            }
        }
        BucketTube x = Due.tube("clung 50 99;");
        due("at first", 500, x.air(0));
        due("a SECOND", 502, x.air(1));
        Due.due("61", Due.IAE, () -> x.air(61));
        Due.due("below 0", Due.IAE, () -> x.air(-1));
    }

    /** THE LINE: so many or more, t 0 to 60. */
    private static void theLine() {
        BucketTube x = Due.tube("clung 99 93;");
        for (int t = 0; t <= 60; t++) {
            int odds = x.air(t);
            int least = t;
            while (least > 0 && x.air(least - 1) >= odds) {
                least--;
            }
            due("ODDS at " + t, least, x.line(odds));
        }
        due("at the 60th", 1, x.line(x.air(60)) >= 0 ? 1 : 0);
        due("more than at the 60th", -1, x.line(x.air(60) + 1));
        due("0", 0, x.line(0));
        due("1000", -1, x.line(1000));
        BucketTube none = Due.tube("clung 0 99;");
        due("none clung: 1000 at once", 0, none.line(1000));
        BucketTube half = Due.tube("clung 50 1;");
        due("500 at once", 0, half.line(500));
        due("501", 1, half.line(501));
        due("990, just so", 1, half.line(half.air(1)));
        due("one more", 2, half.line(half.air(1) + 1));
        Due.due("1001", Due.IAE, () -> x.line(1001));
        Due.due("below 0", Due.IAE, () -> x.line(-1));
    }

    /** From which INCHES one FEELS that one: a PLACE once, though both be one. */
    private static void thorns() {
        for (int inches : new int[] {12, 13, 84}) {
            for (int mark : new int[] {0, 1, inches / 2, inches - 1}) {
                for (int at : new int[] {0, 1, mark, (mark + inches / 2) % inches, inches - 1}) {
                    BucketTube x = Due.tube("tube " + inches + ";mark " + mark + ";");
                    x.thorn(at);
                    for (int inch = 0; inch < inches; inch++) {
                        boolean feels = (mark + inch) % inches == at || (mark - inch + inches) % inches == at;
                        due("SIDE 0 at " + inch, (feels ? 10 : 1) * (5 * BILLION / inches), x.weight(4 * inch));
                        due("SIDE 1 at " + inch, BILLION / inches, x.weight(4 * inch + 1));
                    }
                }
            }
        }
        BucketTube x = Due.tube("tube 12;mark 3;");
        due("the first", 0, x.thorn(3));
        due("the last", 0, x.thorn(11));
        due("felt from 8", 10 * (5 * BILLION / 12), x.weight(32));
        due("none behind it", -1, x.thorn(12));
        due("none ahead", -1, x.thorn(-1));
        due("two ACTS", 2, x.count(17));
        due("refused", 2, x.count(20));
    }

    /** 10 to the power of 15 at most. */
    private static void thornMost() {
        // 10 to the power of 9 each: six THORNS are just the most.
        BucketTube just = Due.tube("tube 12;" + only("thorn", 12));
        long weight = BILLION;
        for (int i = 1; i <= 5; i++) {
            just.thorn(0);
            weight *= 10;
            due("THORN " + i, weight, just.weight(0));
        }
        just.thorn(0);
        due("just the most", MOST, just.weight(0));
        just.thorn(0);
        due("no more", MOST, just.weight(0));
        BucketTube above = Due.tube("tube 12;" + only("thorn", 13));
        for (int i = 0; i < 5; i++) {
            above.thorn(0);
        }
        due("below it", 13 * BILLION / 12 * 100000, above.weight(0));
        above.thorn(0);
        due("kept to it", MOST, above.weight(0));
        BucketTube below = Due.tube("tube 12;" + only("thorn", 11));
        for (int i = 0; i < 6; i++) {
            below.thorn(0);
        }
        due("just below it", 11 * BILLION / 12 * 1000000, below.weight(0));
        due("ODDS by 1000 of it", 999, below.odds(0));
        above.dip(0, 1);
        due("a DIP of the most", MOST / 100 * 60, above.weight(0));
        above.undo();
        due("undone", MOST, above.weight(0));
        // All round, 84 INCHES of the most: ODDS, and those of a SIDE.
        BucketTube all = Due.tube("tube 84;hand 9;miss 99;" + only("thorn", 84));
        for (int inch = 0; inch <= 42; inch++) {
            for (int i = 0; i < 6; i++) {
                all.thorn(inch);
            }
        }
        due("of a PLACE", 11, all.odds(332));
        due("of an INCH", 11, all.ofInch(83));
        due("of the SIDE", 1000, all.ofSide(0));
        due("of another SIDE", 0, all.ofSide(1));
        due("NEXT", 0, all.next(1));
        due("ENOUGH of all", 0, all.enough(1000));
        due("ENOUGH, a little less", 1, all.enough(999));
        due("THE QUARTER", 0, all.quarter());
    }

    private static void theQuarter() {
        BucketTube x = Due.tube("tube 12;noise 50;" + only("thorn", 12));
        due("of like ones the least", 0, x.quarter());
        x.listen(0, 1);
        due("the next one", 1, x.quarter());
        x.listen(1, 1);
        due("the third", 2, x.quarter());
        x.listen(2, 1);
        due("the last", 3, x.quarter());
        x.listen(3, 1);
        due("all alike again", 0, x.quarter());
        // 13 INCHES: 0 to 3 in the first QUARTER, three in the others.
        due("four INCHES", 0, Due.tube("tube 13;" + only("spoke", 1)).quarter());
        // 14: 0 to 3, 4 to 6, 7 to 10, 11 to 13.
        BucketTube y = Due.tube("tube 14;noise 99;" + only("spoke", 1));
        y.listen(0, 1);
        due("four again", 2, y.quarter());
        y.listen(2, 40);
        y.listen(0, 40);
        due("three, of like ones the least", 1, y.quarter());
    }

    /** DIPS at 0, HAND, twice HAND .. those that there are, then from 0 on again, whatever one believes. */
    private static void sweeps() {
        int seed = Draws.seedOf(99);
        for (int inches : new int[] {12, 13, 18, 84}) {
            for (int hand : new int[] {1, 2, 5, 6, 9}) {
                for (int at : new int[] {0, 1, hand - 1, hand, inches - 2, inches - 1}) {
                    for (int each : new int[] {1, 7}) {
                        BucketTube x = Due.tube("tube " + inches + ";hand " + hand + ";miss 1;hole " + at + " rim 1;");
                        x.dip(0, 60);
                        int dips = 0;
                        int first = 0;
                        while ((at - first + inches) % inches >= hand && first < inches) {
                            first += hand;
                            dips++;
                        }
                        int want = dips * each + 1;
                        due("sweep " + inches + " by " + hand + " to " + at, want <= 600 ? want : -1,
                                x.sweep(seed, false, each, 0));
                    }
                }
            }
        }
        // Three DIPS of 12 by 5: 0, 5, 10; then 0 again, in the 4th SECOND. 1 is looked at by 0, and round by 10.
        BucketTube x = Due.tube("tube 12;hand 5;miss 60;hole 1 rim 1;hole 9 rim 1;");
        due("0, 5", 2, x.sweep(Draws.seedShown(60, false, true), false, 1, 0));
        due("0, 5", 1, x.sweep(Draws.seedShown(60, false, true), false, 1, 1));
        due("0, 5, 10", 3, x.sweep(Draws.seedShown(60, false, false, true), false, 1, 0));
        due("0, 5, 10", 0, x.sweep(Draws.seedShown(60, false, false, true), false, 1, 1));
        due("0, 5, 10, 0", 4, x.sweep(Draws.seedShown(60, false, false, false, true), false, 1, 0));
        due("0, 5, 10, 0, 5", 5, x.sweep(Draws.seedShown(60, false, false, false, false, true), false, 1, 0));
        due("0, 5, 10, 0, 5", 1, x.sweep(Draws.seedShown(60, false, false, false, false, true), false, 1, 1));
        // Four DIPS of 12 by 3, none beyond the last INCH.
        BucketTube y = Due.tube("tube 12;hand 3;miss 60;hole 0 rim 1;");
        due("0, 3, 6, 9, 0", 5, y.sweep(Draws.seedShown(60, false, true), false, 1, 0));
        due("no ACT", 0, y.count(17));
    }

    /** 1 to 60 SECONDS each. */
    private static void sweepSeconds() {
        int seed = Draws.seedOf(99);
        BucketTube x = Due.tube("tube 84;hand 1;miss 1;hole 9 left 1;hole 10 right 1;hole 60 outer 1 slow;");
        due("1 each", 10, x.sweep(seed, false, 1, 0));
        due("60 each", 541, x.sweep(seed, false, 60, 0));
        due("which", 0, x.sweep(seed, false, 60, 1));
        x.patch(0, 60, 0, 0, 1);
        due("60 each: 600 are over", -1, x.sweep(seed, false, 60, 0));
        due("59 each: the 591st", 591, x.sweep(seed, false, 59, 0));
        x.patch(1, 60, 0, 0, 1);
        due("none leaks", -1, x.sweep(seed, false, 1, 0));
        due("under load", 61, x.sweep(seed, true, 1, 0));
        due("under load, 10 each: 601", -1, x.sweep(seed, true, 10, 0));
        due("under load, 9 each: 541", 541, x.sweep(seed, true, 9, 0));
        Due.due("0 each", Due.IAE, () -> x.sweep(seed, true, 0, 0));
        Due.due("61 each", Due.IAE, () -> x.sweep(seed, true, 61, 0));
        BucketTube last = Due.tube("tube 12;hand 1;miss 1;hole 11 left 1;");
        due("50 each: 551", 551, last.sweep(seed, false, 50, 0));
        due("54 each: 595", 595, last.sweep(seed, false, 54, 0));
        due("55 each: 606 is none", -1, last.sweep(seed, false, 55, 0));
    }

    /** No more than all by 1000, cut down, by so many; 0 to 600 SECONDS. */
    private static void enough() {
        // 10 to the power of 9 by halves: 1000 parts of 1000000.
        BucketTube x = Due.tube("hand 1;miss 50;" + only("valve", 1));
        int[] parts = {1000, 999, 501, 500, 499, 250, 249, 125, 124, 1, 0};
        int[] want = {0, 1, 1, 1, 2, 2, 3, 3, 4, 10, 30};
        for (int i = 0; i < parts.length; i++) {
            due("parts " + parts[i], want[i], x.enough(parts[i]));
        }
        x.dip(0, 1);
        due("by what they are now", 1, x.enough(500));
        // 12 by 83333333 are 999999996: by 1000 cut down they are 999999, by 1000 again 4 less than all.
        BucketTube y = Due.tube("tube 12;hand 1;miss 99;" + only("thorn", 1));
        due("cut down first", 1, y.enough(1000));
        // All below 1000: by 1000 they are 0, so that none may be left.
        BucketTube z = Due.tube("hand 1;miss 10;" + only("valve", 1));
        z.dip(0, 6);
        due("1000 are left", 1000, z.weight(3));
        due("just so", 0, z.enough(1000));
        due("one part", 3, z.enough(1));
        z.dip(0, 1);
        due("100 are left: till there are none", 3, z.enough(1000));
        z.dip(0, 2);
        due("one is left", 1, z.enough(1000));
        z.dip(0, 1);
        due("none are left", 0, z.enough(0));
        // One INCH alone, by 99 of 100: behind 600 SECONDS as much as can be, or none.
        BucketTube w = Due.tube("hand 1;miss 99;" + only("valve", 1));
        long[] left = new long[601];
        left[0] = BILLION;
        for (int i = 1; i <= 600; i++) {
            left[i] = left[i - 1] * 99 / 100;
        }
        for (int part : new int[] {1000, 999, 500, 10, 3}) {
            int due = 0;
            while (left[due] > BILLION / 1000 * part) {
                due++;
            }
            due("parts " + part, due, w.enough(part));
        }
        due("600 aren't enough for 2", left[600] <= 2000000 ? 600 : -1, w.enough(2));
        due("nor for none", -1, w.enough(0));
        BucketTube end = Due.tube("tube 12;hand 1;miss 95;cause valve 0;");
        due("the 600th", 600, end.enough(77));
        due("not the 601st", -1, end.enough(76));
        due("what one believes stays", 5 * BILLION / 12, end.weight(0));
    }

    /** All WEIGHTS together are one, then none. */
    private static void oneIsLeft() {
        BucketTube x = Due.tube("tube 12;hand 1;miss 10;" + only("valve", 1));
        x.dip(0, 9);
        due("one is left", 1, x.weight(3));
        due("ODDS of it", 1000, x.odds(3));
        due("ODDS of another", 0, x.odds(0));
        due("of its INCH", 1000, x.ofInch(0));
        due("of another INCH", 0, x.ofInch(1));
        due("of its SIDE", 1000, x.ofSide(3));
        due("of another SIDE", 0, x.ofSide(0));
        due("LIKELIEST", 3, x.next(0));
        due("HOW LONG: NEXT stays 0", 600, x.next(2));
        x.dip(0, 1);
        due("none is left", 0, x.weight(3));
        due("ODDS", 0, x.odds(3));
        due("of its INCH", 0, x.ofInch(0));
        due("of its SIDE", 0, x.ofSide(3));
    }

    /** Where to dip goes by what one believes now: behind an ACT, an undone one, an image, another SHED. */
    private static void now(String what, BucketTube x, BucketTube same) {
        due(what + ": NEXT", same.next(1), x.next(1));
        due(what + ": HOW LONG", same.next(2), x.next(2));
        due(what + ": SEEK", same.seek(40, true, 0), x.seek(40, true, 0));
        due(what + ": SEEKING", same.seeks(40, 9, true, 1), x.seeks(40, 9, true, 1));
        due(what + ": ENOUGH", same.enough(300), x.enough(300));
        due(what + ": PLAN", same.plan(9), x.plan(9));
        due(what + ": planned", same.planned(0) + 100 * same.planned(4), x.planned(0) + 100 * x.planned(4));
    }

    private static void asOneBelievesNow() {
        String text = "tube 12;hand 2;miss 80;noise 30;hole 5 rim 1;hole 11 outer 2 slow;";
        BucketTube x = Due.tube(text);
        now("at first", x, Due.tube(text));
        due("NEXT at first", 0, x.next(1));
        BucketTube dipped = Due.tube(text);
        dipped.dip(0, 600);
        x.dip(0, 600);
        now("dipped", x, dipped);
        due("NEXT, dipped", 2, x.next(1));
        x.image();
        x.undo();
        now("undone", x, Due.tube(text));
        due("NEXT, undone", 0, x.next(1));
        BucketTube heard = Due.tube(text);
        heard.listen(0, 9);
        x.listen(0, 9);
        now("LISTENING", x, heard);
        due("NEXT, LISTENING", 3, x.next(1));
        x.restore();
        now("the image", x, dipped);
        due("NEXT, the image", 2, x.next(1));
        BucketTube felt = Due.tube(text);
        felt.thorn(7);
        x.undo();
        now("undone", x, Due.tube(text));
        x.thorn(7);
        now("a THORN", x, felt);
        due("NEXT, a THORN", 4, x.next(1));
        String other = "tube 13;hand 3;hole 7 rim 1;cause thorn 0;";
        Due.shed(x, "frog;");
        now("a FAULT", x, felt);
        Due.shed(x, other);
        now("another SHED", x, Due.tube(other));
        due("NEXT, another SHED", 0, x.next(1));
        Due.shed(x, "tube 12;hand 1;cause valve 0;cause kerb 0;cause spoke 0;");
        x.thorn(6);
        due("NEXT by another MARK", 6, x.next(1));
        Due.shed(x, "tube 12;hand 1;cause valve 0;cause kerb 0;cause spoke 0;");
        due("NEXT of one that has no ACTS", 0, x.next(1));
    }

    /** An ACT of believing changes no PRESSURE, no MINUTES, no PATCH; the others change no WEIGHT. */
    private static void nothingElse() {
        BucketTube x = Due.tube("tube 12;hole 5 rim 1;hole 7 left 1;leak 10;");
        x.patch(1, 60, 0, 0, 1);
        x.minutes(7, false);
        x.dip(3, 1);
        x.listen(1, 1);
        x.thorn(1);
        due("THE PRESSURE", 59930, x.count(15));
        due("MINUTES", 7, x.count(16));
        due("not MENDED", 0, x.hole(0, 4));
        due("MENDED", 1, x.hole(1, 4));
        long[] weights = new long[48];
        for (int place = 0; place < 48; place++) {
            weights[place] = x.weight(place);
        }
        x.pump();
        due("MENDED, pumped", 1, x.hole(1, 4));
        due("MINUTES, pumped", 7, x.count(16));
        x.minutes(9, true);
        due("MENDED, MINUTES on", 1, x.hole(1, 4));
        x.patch(0, 60, 0, 0, 1);
        due("MENDED, another one too", 1, x.hole(1, 4));
        due("THE PRESSURE, patched", 59910, x.count(15));
        due("MINUTES, patched", 16, x.count(16));
        x.patch(0, 0, 0, 0, 1);
        due("MENDED, another one leaks", 1, x.hole(1, 4));
        for (int place = 0; place < 48; place++) {
            due("WEIGHT", weights[place], x.weight(place));
        }
    }

    private static void ofInchesAndSides() {
        BucketTube x = Due.tube("tube 84;cause thorn 99;cause kerb 98;cause spoke 97;cause valve 96;");
        long thorn = 99 * BILLION / 84;
        long kerb = 98 * BILLION / 168;
        long spoke = 97 * BILLION / 84;
        long valve = 96 * BILLION;
        long all = 84 * (thorn + 2 * kerb + spoke) + valve;
        due("INCH 0", (thorn + 2 * kerb + spoke + valve) * 1000 / all, x.ofInch(0));
        due("INCH 83", (thorn + 2 * kerb + spoke) * 1000 / all, x.ofInch(83));
        due("SIDE 0", 84 * thorn * 1000 / all, x.ofSide(0));
        due("SIDE 1", 84 * kerb * 1000 / all, x.ofSide(1));
        due("SIDE 2", 84 * kerb * 1000 / all, x.ofSide(2));
        due("SIDE 3", (84 * spoke + valve) * 1000 / all, x.ofSide(3));
        Due.due("no INCH", Due.NSE, () -> x.ofInch(84));
        Due.due("no INCH", Due.NSE, () -> x.ofInch(-1));
        Due.due("no SIDE", Due.NSE, () -> x.ofSide(4));
        Due.due("no SIDE", Due.NSE, () -> x.ofSide(-1));
    }
}
