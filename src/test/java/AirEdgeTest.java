/** Terms, parts 2, 4 and 6: bounds of THE PRESSURE, of MINUTES, of PATCHES, of the way home, of WHICH LEAK and RIDES. */
public final class AirEdgeTest {
    private AirEdgeTest() {
    }

    public static void main(String[] args) {
        pressureAtFirst();
        keptTo();
        whatALeakReads();
        whichHolesLeak();
        together();
        flatBelow();
        flatTwoThousand();
        flatNow();
        manyMinutes();
        pumping();
        holdsKeptTo();
        near();
        glueEnds();
        glueOfARule();
        patchDraws();
        rideEnds();
        rideMinute();
        mending();
        bestOfLikeOnes();
        flatIfSets();
        whichSets();
        ridesEnds();
        ridesMinute();
        Due.end();
    }

    private static void due(String what, long want, long got) {
        Due.due(what, want, got);
    }

    /** 1000 by PRESSURE at first, 100000 at most. */
    private static void pressureAtFirst() {
        for (int told : new int[] {1, 2, 9, 10, 59, 99, 100}) {
            BucketTube x = Due.tube("pressure " + told + ";");
            due("at first", 1000 * told, x.count(15));
            due("pumped: as it was", 1000 * told, x.pump());
            due("pumped: no more", 1000 * told, x.count(15));
        }
        due("without", 60000, new BucketTube().count(15));
    }

    private static int gone(int pressure, String leak) {
        return Due.tube("pressure " + pressure + ";hole 1 rim 1;leak " + leak + ";").leak(false);
    }

    /** What 'leak' gives is kept to 0 to 50000, of each HOLE for itself. */
    private static void keptTo() {
        due("one below the most", 49999, gone(100, "5000*10-1"));
        due("the most", 50000, gone(100, "5000*10"));
        due("one above", 50000, gone(100, "5000*10+1"));
        due("far above", 50000, gone(100, "9999*9999"));
        due("one above 0", 1, gone(100, "1"));
        due("0", 0, gone(100, "0"));
        due("one below 0", 0, gone(100, "0-1"));
        due("far below 0", 0, gone(100, "0-9999*9999"));
        due("it wraps below 0", 0, gone(100, "(4634*10)*(4634*10)+8804*10+8"));
        due("it wraps to 0", 0, gone(100, "(4096*16)*(4096*16)"));
        BucketTube each = Due.tube("pressure 100;hole 1 rim 1;hole 2 left 1;leak 100-300*(side=1);");
        due("one below 0 takes nothing from another one", 100, each.leak(false));
        BucketTube two = Due.tube("pressure 100;hole 1 rim 1;hole 2 left 1;leak 5000*10+side;");
        due("each to 50000", 100000, two.leak(false));
        due("without a 'leak'", 24 * 100, Due.tube("pressure 100;hole 1 rim 24;").leak(false));
        due("without a 'leak', slow", 1, Due.tube("pressure 1;hole 1 rim 1 slow;").leak(true));
    }

    /** VALUES of 'leak': PRESSURE by 1000 cut down, 'minute' as many as there were, 'load'. */
    private static void whatALeakReads() {
        BucketTube x = Due.tube("pressure 51;hole 1 rim 1;leak (minute=0)+(0<minute)*pressure;");
        due("one below 51000", 50999, x.minutes(1, false));
        due("cut down", 50, x.leak(false));
        due("one PRESSURE less", 50999 - 50, x.minutes(1, false));
        due("all of 51", 51, gone(51, "pressure"));
        BucketTube plain = Due.tube("pressure 10;hole 1 rim 2;");
        due("without: 2 by 10", 10000 - 20, plain.minutes(1, false));
        due("without: 2 by 9", 10000 - 20 - 18, plain.minutes(1, false));
        BucketTube m = Due.tube("hole 1 rim 1;leak minute;");
        due("none ahead of the first", 0, m.leak(false));
        m.minutes(1, false);
        due("one", 1, m.leak(false));
        m.minutes(598, false);
        m.pump();
        due("599", 599, m.leak(false));
        m.dip(0, 5);
        due("neither pumped nor dipped", 599, m.leak(false));
        m.undo();
        m.undo();
        m.undo();
        due("undone", 1, m.leak(false));
        due("under load", 1, Due.tube("hole 1 rim 1;leak load;").leak(true));
        due("not under load", 0, Due.tube("hole 1 rim 1;leak load;").leak(false));
    }

    /** A SLOW one under load alone, a MENDED one never. */
    private static void whichHolesLeak() {
        BucketTube x = Due.tube("hole 1 rim 1;hole 2 rim 2 slow;leak size*10;");
        due("plain alone", 10, x.leak(false));
        due("both", 30, x.leak(true));
        x.patch(1, 60, 0, 0, 1);
        due("slow one mended", 10, x.leak(true));
        x.patch(0, 60, 0, 0, 1);
        due("both mended", 0, x.leak(true));
        due("both mended", 60000, x.minutes(600, true));
        x.patch(1, 0, 0, 0, 1);
        due("slow one leaks again", 20, x.leak(true));
        due("slow one leaks again, not without load", 0, x.leak(false));
    }

    /** Gone is THE PRESSURE at most, 0 are left at least; all by THE PRESSURE ahead. */
    private static void together() {
        String two = "pressure 20;hole 1 rim 1;hole 2 rim 1;leak 5000*2";
        BucketTube less = Due.tube("pressure 20;hole 1 rim 1;hole 2 rim 2;leak 5000*2-(size=2);");
        due("one is left", 1, less.minutes(1, false));
        due("no more than one is gone", 1, less.leak(false));
        BucketTube all = Due.tube(two + ";");
        due("just all", 20000, all.leak(false));
        due("none is left", 0, all.minutes(1, false));
        due("nothing more", 0, all.leak(false));
        due("0 at least", 0, all.minutes(600, true));
        BucketTube more = Due.tube(two + "+1;");
        due("THE PRESSURE at most", 20000, more.leak(false));
        due("0 at least", 0, more.minutes(1, false));
        BucketTube ahead = Due.tube("pressure 20;hole 1 rim 1;hole 2 rim 1;leak pressure*100;");
        due("each by the 20 ahead", 4000, ahead.leak(false));
        due("each by the 16 ahead", 20000 - 4000 - 3200, ahead.minutes(2, false));
    }

    /** FLAT is below 10000: 10000 isn't. */
    private static void flatBelow() {
        BucketTube at = Due.tube("pressure 20;hole 1 rim 1;leak 5000*2;");
        due("10000 isn't FLAT", 2, at.flat(false));
        due("10000 isn't FLAT", 2, at.flatIf(1, false));
        due("10000", 10000, at.minutes(1, false));
        due("10000 isn't FLAT now", 1, at.flat(false));
        due("10000 isn't FLAT now", 1, at.flatIf(1, false));
        due("10000 isn't FLAT for none", -1, at.flatIf(0, false));
        BucketTube below = Due.tube("pressure 20;hole 1 rim 1;leak 5000*2+1;");
        due("9999 is FLAT", 1, below.flat(false));
        due("9999 is FLAT", 1, below.flatIf(1, false));
        due("9999", 9999, below.minutes(1, false));
        due("9999 is FLAT now", 0, below.flat(true));
        due("9999 is FLAT now", 0, below.flatIf(0, true));
    }

    /** Not in 2000 MINUTES: behind the 2000th it is, behind the 2001st it isn't told. */
    private static void flatTwoThousand() {
        for (String rule : new String[] {"5", "5+0*minute"}) {
            BucketTube x = Due.tube("pressure 20;hole 1 rim 1;hole 2 rim 1 slow;leak " + rule + ";");
            // 10000 by 5 are 2000 MINUTES: 10000 behind them, FLAT behind one more.
            due("2001 of " + rule, -1, x.flat(false));
            due("2001 of " + rule, -1, x.flatIf(1, true));
            due("half of it", 1001, x.flat(true));
            due("half of it", 1001, x.flatIf(3, false));
            x.minutes(1, false);
            due("2000 of " + rule, 2000, x.flat(false));
            due("2000 of " + rule, 2000, x.flatIf(2, false));
            x.minutes(1, false);
            due("1999 of " + rule, 1999, x.flatIf(1, true));
        }
        BucketTube late = Due.tube("pressure 20;hole 1 rim 1;leak (minute=1999)*5000*3;");
        due("nothing till the 2000th", 2000, late.flat(false));
        BucketTube later = Due.tube("pressure 20;hole 1 rim 1;leak (minute=2000)*5000*3;");
        due("nothing till the 2001st", -1, later.flat(false));
        due("nothing till the 2001st", -1, later.flatIf(1, false));
        later.minutes(1, false);
        due("nothing till the 2000th from now on", 2000, later.flat(false));
        due("nothing till the 2000th from now on", 2000, later.flatIf(1, false));
    }

    private static void flatNow() {
        due("9 is FLAT", 0, Due.tube("pressure 9;").flat(false));
        due("9 is FLAT", 0, Due.tube("pressure 9;").flatIf(0, true));
        due("10 isn't", -1, Due.tube("pressure 10;").flat(false));
        due("10 isn't", -1, Due.tube("pressure 10;").flatIf(0, true));
        due("10 less 1 is", 1, Due.tube("pressure 10;hole 1 rim 1;leak 1;").flat(false));
        due("nothing leaks", -1, Due.tube("pressure 100;hole 1 rim 1;leak 0;").flat(true));
        due("slow, no load", -1, Due.tube("pressure 10;hole 1 rim 1 slow;leak 1;").flat(false));
        due("slow, load", 1, Due.tube("pressure 10;hole 1 rim 1 slow;leak 1;").flat(true));
    }

    /** MINUTES: 1 to 600 in one ACT. */
    private static void manyMinutes() {
        BucketTube x = Due.tube("hole 1 rim 1;leak 1;");
        due("1", 59999, x.minutes(1, false));
        due("600", 59399, x.minutes(600, false));
        due("601 of them", 601, x.count(16));
        due("two ACTS", 2, x.count(17));
        due("0", -1, x.minutes(0, false));
        due("601", -1, x.minutes(601, false));
        due("THE PRESSURE stays", 59399, x.count(15));
        due("MINUTES stay", 601, x.count(16));
        due("ACTS stay", 2, x.count(17));
        due("refused", 2, x.count(20));
    }

    private static void pumping() {
        BucketTube x = Due.tube("pressure 20;hole 1 rim 1;leak 7;");
        x.minutes(3, false);
        due("as it was", 19979, x.pump());
        due("as it was, full", 20000, x.pump());
        due("MINUTES stay", 3, x.count(16));
        due("each one an ACT", 3, x.count(17));
        due("undone", 2, x.undo());
        due("still full", 20000, x.count(15));
        due("undone", 1, x.undo());
        due("as it was", 19979, x.count(15));
    }

    private static int held(String rule, int minutes, int cold, int damp) {
        return Due.tube("hole 1 rim 7;holds " + rule + ";").holds(0, minutes, cold, damp);
    }

    /** HOLDS is kept to 0 to 100; MINUTES 0 to 60, COLD and DAMP 0 to 100. */
    private static void holdsKeptTo() {
        due("99", 99, held("99", 0, 0, 0));
        due("100", 100, held("100", 0, 0, 0));
        due("101", 100, held("101", 0, 0, 0));
        due("1", 1, held("1", 0, 0, 0));
        due("0", 0, held("0", 60, 0, 0));
        due("below 0", 0, held("0-1", 0, 0, 0));
        due("far below", 0, held("0-9999*9999", 0, 0, 0));
        due("minutes 0", 0, held("minutes", 0, 9, 9));
        due("minutes 60", 60, held("minutes", 60, 9, 9));
        due("cold 0", 0, held("cold", 9, 0, 9));
        due("cold 100", 100, held("cold", 9, 100, 9));
        due("damp 0", 0, held("damp", 9, 9, 0));
        due("damp 100", 100, held("damp", 9, 9, 100));
        due("size", 7, held("size", 9, 9, 100));
        due("side", 3, held("side", 9, 9, 100));
        int[] plain = {0, 12, 24, 36, 48, 60, 72, 84, 96, 100, 100};
        BucketTube x = Due.tube("hole 1 rim 7;");
        for (int minutes = 0; minutes < plain.length; minutes++) {
            due("without, " + minutes, plain[minutes], x.holds(0, minutes, 100, 100));
        }
        due("without, 60", 100, x.holds(0, 60, 0, 0));
    }

    /** 'near': other HOLES no more than 2 INCHES off, the shorter way round. */
    private static void near() {
        for (int inches : new int[] {12, 13, 84}) {
            for (int at : new int[] {0, 1, 2, 5, inches - 1, inches - 2}) {
                for (int off = 0; off <= 4; off++) {
                    long want = off <= 2 ? 1 : 0;
                    String tube = "tube " + inches + ";hole " + at + " left 1;hole ";
                    int up = (at + off) % inches;
                    int down = (at - off + inches) % inches;
                    due(tube + up, want, Due.tube(tube + up + " right 1;holds near;").holds(0, 0, 0, 0));
                    due(tube + down, want, Due.tube(tube + down + " right 1;holds near;").holds(0, 0, 0, 0));
                    due(tube + down, want, Due.tube(tube + down + " right 1;holds near;").holds(1, 0, 0, 0));
                }
            }
        }
        due("none but itself", 0, Due.tube("hole 5 left 1;holds near;").holds(0, 0, 0, 0));
        due("five others", 5, Due.tube("hole 5 left 1;hole 5 rim 1;hole 5 outer 1;hole 5 right 1;hole 3 left 1;hole 7 rim 1;"
                + "holds near;").holds(0, 0, 0, 0));
        BucketTube x = Due.tube("hole 5 left 1;hole 6 rim 1 slow;holds near*40;");
        x.patch(1, 0, 0, 0, Draws.seedOf(39));
        due("mended", 1, x.hole(1, 4));
        due("a MENDED one counts", 40, x.holds(0, 0, 0, 0));
    }

    /** GLUE: MINUTES 0 to 60, HOLDS 0 to 100 or more of it. */
    private static void glueEnds() {
        BucketTube x = Due.tube("hole 1 rim 1;");
        due("for none", 0, x.glue(0, 0, 0, 0));
        due("for one", 1, x.glue(0, 0, 0, 1));
        due("for 12", 1, x.glue(0, 0, 0, 12));
        due("for 13", 2, x.glue(0, 0, 0, 13));
        due("for 96", 8, x.glue(0, 0, 0, 96));
        due("for 97", 9, x.glue(0, 0, 0, 97));
        due("for 100", 9, x.glue(0, 100, 100, 100));
    }

    private static void glueOfARule() {
        BucketTube x = Due.tube("hole 1 rim 1;holds minutes;");
        due("the last", 60, x.glue(0, 0, 0, 60));
        due("none", -1, x.glue(0, 0, 0, 61));
        due("0", 0, x.glue(0, 0, 0, 0));
        due("1", 1, x.glue(0, 0, 0, 1));
        BucketTube kept = Due.tube("hole 1 rim 1;holds minutes*9999;");
        due("kept to 100", 1, kept.glue(0, 0, 0, 100));
        BucketTube low = Due.tube("hole 1 rim 1;holds minutes-100;");
        due("kept to 0", 0, low.glue(0, 0, 0, 0));
        due("none", -1, low.glue(0, 0, 0, 1));
        BucketTube weather = Due.tube("hole 1 rim 1;holds minutes-cold+damp;");
        due("by COLD", 40, weather.glue(0, 10, 0, 30));
        due("by DAMP", 10, weather.glue(0, 0, 20, 30));
        due("the least of two", 3, Due.tube("hole 1 rim 1;holds minutes=3 or minutes=5;").glue(0, 0, 0, 1));
    }

    /** A DRAW below HOLDS mends; one of HOLDS itself doesn't. */
    private static void patchDraws() {
        for (int draw : new int[] {0, 1, 50, 98, 99}) {
            int seed = Draws.seedOf(draw);
            BucketTube x = Due.tube("hole 1 rim 1;holds cold;");
            due("just below, " + draw, 1, x.patch(0, 0, draw + 1, 0, seed) ? 1 : 0);
            due("mended", 1, x.hole(0, 4));
            due("just as many, " + draw, 0, x.patch(0, 0, draw, 0, seed) ? 1 : 0);
            due("it leaks again", 0, x.hole(0, 4));
            due("just as many once more", 0, x.patch(0, 0, draw, 0, seed) ? 1 : 0);
            due("it leaks still", 0, x.hole(0, 4));
            due("each one an ACT", 3, x.count(17));
        }
        BucketTube x = Due.tube("hole 1 rim 1;");
        due("60 MINUTES", 1, x.patch(0, 60, 100, 100, Draws.seedOf(99)) ? 1 : 0);
        due("0 MINUTES", 0, x.patch(0, 0, 0, 0, Draws.seedOf(0)) ? 1 : 0);
        // Seeds whose bit 31 or bit 15 would change the DRAW, if it counted.
        int high = 0;
        while (Draws.grown(high) >= 0) {
            high++;
        }
        int draw = Draws.ofHundred(Draws.grown(high));
        BucketTube y = Due.tube("hole 1 rim 1;holds cold;");
        due("bit 31 doesn't count", 0, y.patch(0, 0, draw, 0, high) ? 1 : 0);
        due("bit 31 doesn't count", 1, y.patch(0, 0, draw + 1, 0, high) ? 1 : 0);
        for (int seed : new int[] {0, -1, Integer.MAX_VALUE, Integer.MIN_VALUE, 65536, 1 << 30}) {
            int drawn = Draws.ofHundred(Draws.grown(seed));
            due("seed " + seed, 0, y.patch(0, 0, drawn, 0, seed) ? 1 : 0);
            due("seed " + seed, 1, y.patch(0, 0, drawn + 1, 0, seed) ? 1 : 0);
        }
    }

    /** TO GO: 0 to 60 miles, FLAT below 10000, once ahead of one MINUTE. */
    private static void rideEnds() {
        // 20000: ten MINUTES of 1000 leave 10000, which isn't FLAT.
        BucketTube x = Due.tube("pressure 16;hole 1 rim 1 slow;leak 1000;");
        due("six MINUTES, 10000 are left", 0, x.ride(1, 0));
        due("MINUTES", 6, x.ride(1, 1));
        due("twelve", 1, x.ride(2, 0));
        due("MINUTES, 3 more", 15, x.ride(2, 1));
        due("60 miles: pumped ahead of the 7th, the 13th ..", 59, x.ride(60, 0));
        due("60 miles: MINUTES", 360 + 177, x.ride(60, 1));
        due("no mile", 0, x.ride(0, 0));
        due("no mile", 0, x.ride(0, 1));
        BucketTube more = Due.tube("pressure 16;hole 1 rim 1;leak 1001;");
        due("9994 would be left", 1, more.ride(1, 0));
        BucketTube just = Due.tube("pressure 16;hole 1 rim 1;leak 6000;");
        due("10000 each time", 5, just.ride(1, 0));
        due("10000 each time", 21, just.ride(1, 1));
        BucketTube never = Due.tube("pressure 16;hole 1 rim 1;leak 6001;");
        due("FLAT all the same", -1, never.ride(1, 0));
        due("FLAT all the same", -1, never.ride(1, 1));
        due("no mile", 0, never.ride(0, 0));
        BucketTube low = Due.tube("pressure 9;");
        due("pumped it is FLAT", -1, low.ride(1, 0));
        due("no mile, FLAT", 0, low.ride(0, 0));
        BucketTube ten = Due.tube("pressure 10;");
        due("pumped it isn't FLAT", 0, ten.ride(60, 0));
        BucketTube flat = Due.tube("pressure 20;hole 1 rim 1;leak 5000*3;");
        flat.minutes(1, true);
        flat.patch(0, 60, 0, 0, 1);
        due("FLAT, mended: pumped once", 1, flat.ride(60, 0));
        due("FLAT, mended: no mile", 0, flat.ride(0, 0));
        due("THE PRESSURE stays", 5000, flat.count(15));
        due("ACTS stay", 2, flat.count(17));
        BucketTube unloaded = Due.tube("pressure 16;hole 1 rim 1;leak 1001*load;");
        due("it is under load", 1, unloaded.ride(1, 0));
        BucketTube pumped = Due.tube("pressure 16;hole 1 rim 1;leak 6001*load;");
        due("pumped it is under load still", -1, pumped.ride(1, 0));
        BucketTube most = Due.tube("pressure 16;hole 1 rim 1;leak 6000*load;");
        due("pumped it is under load still", 5, most.ride(1, 0));
    }

    /** 'minute' goes on along the way, from what there were; pumping is no MINUTE of it. */
    private static void rideMinute() {
        BucketTube x = Due.tube("pressure 16;hole 1 rim 1;leak (minute=6)*9999;");
        due("the 7th", 0, x.ride(1, 0));
        due("the 7th", -1, x.ride(2, 0));
        x.minutes(1, false);
        due("the 6th", -1, x.ride(1, 0));
        x.minutes(6, false);
        due("behind it: pumped", 1, x.ride(1, 0));
        // Pumped ahead of MINUTES 3 and 6: what is gone in a MINUTE goes by its number alone.
        BucketTube y = Due.tube("pressure 20;hole 1 rim 1;leak 3000+1000*minute;");
        due("3, 4 and, pumped, 5 and, pumped, 6 and, pumped, 7 and 8", 4, y.ride(1, 0));
    }

    /** TO MEND: GLUE of all that leak under load, 15, 6 for each mile. TO WALK: 20 for each. */
    private static void mending() {
        String never = "pressure 9;hole 1 rim 1;hole 2 rim 1 slow;holds minutes*20;";
        BucketTube x = Due.tube(never);
        due("no mile: nothing to ride", 0, x.best(0, 0, 0, 100, 1));
        due("one mile: 20", 20, x.best(1, 0, 0, 100, 1));
        due("two miles: 5 and 5 and 15 and 12", 37, x.best(2, 0, 0, 100, 1));
        due("two miles", 0, x.best(2, 0, 0, 100, 0));
        due("for none", 15 + 12, x.best(2, 0, 0, 0, 1));
        due("60 miles", 15 + 10 + 360, x.best(60, 0, 0, 100, 1));
        x.patch(1, 60, 0, 0, 1);
        due("one is mended", 32, x.best(2, 0, 0, 100, 1));
        x.patch(0, 60, 0, 0, 1);
        due("both are mended", 27, x.best(2, 0, 0, 100, 1));
        BucketTube none = Due.tube("pressure 9;hole 1 rim 1;hole 2 rim 2 slow;holds 50*size;");
        due("it can be", 0, none.best(60, 0, 0, 50, 0));
        due("it can't be, for one there is none", 2, none.best(60, 0, 0, 51, 0));
        due("walk", 1200, none.best(60, 0, 0, 51, 1));
        none.patch(0, 60, 0, 0, Draws.seedOf(49));
        due("that one is mended", 0, none.best(60, 0, 0, 51, 0));
        BucketTube last = Due.tube("pressure 9;hole 1 rim 1;hole 2 rim 2;holds minutes*(1+4*(size=1));");
        due("5 for the one, none for the other", 2, last.best(60, 0, 0, 61, 0));
        due("12 for the one, 60 for the other", 15 + 72 + 360, last.best(60, 0, 0, 60, 1));
        BucketTube first = Due.tube("pressure 9;hole 1 rim 1;hole 2 rim 2;holds minutes*(1+4*(size=2));");
        due("none for the one, 13 for the other", 2, first.best(60, 0, 0, 61, 0));
        due("60 for the one, 12 for the other", 15 + 72 + 360, first.best(60, 0, 0, 60, 1));
        BucketTube weather = Due.tube("pressure 9;hole 1 rim 1;holds minutes-cold/10-damp/5;");
        due("COLD", 15 + 10 + 10 + 360, weather.best(60, 100, 0, 10, 1));
        due("DAMP", 15 + 10 + 20 + 360, weather.best(60, 0, 100, 10, 1));
        due("both, just so", 15 + 60 + 360, weather.best(60, 100, 100, 30, 1));
        due("both, none", 2, weather.best(60, 100, 100, 31, 0));
    }

    /** Of like ones the least: to mend ahead of riding ahead of walking. */
    private static void bestOfLikeOnes() {
        // No mile: mending takes 15 at least, riding and walking none.
        BucketTube x = Due.tube("pressure 20;hole 1 rim 1;");
        due("riding and walking 0", 1, x.best(0, 0, 0, 0, 0));
        due("riding and walking 0", 0, x.best(0, 0, 0, 0, 1));
        // 10000 each MINUTE: pumped ahead of five of six, 6 and 15 are 21; of one mile 15 and 6, no glue, are 21 too.
        BucketTube y = Due.tube("pressure 20;hole 1 rim 1;leak 5000*2;holds minutes;");
        due("a mile: walk", 2, y.best(1, 0, 0, 0, 0));
        due("two miles: 12 and 33 or 27", 0, y.best(2, 0, 0, 0, 0));
        // Of two miles riding takes 12 and 33, mending 27 and the glue: 18 are like ones, but a walk takes 40.
        due("two miles: glue 12", 0, y.best(2, 0, 0, 12, 0));
        due("two miles: glue 13 and a walk are like ones", 0, y.best(2, 0, 0, 13, 0));
        due("two miles: glue 13", 40, y.best(2, 0, 0, 13, 1));
        due("two miles: glue 14", 2, y.best(2, 0, 0, 14, 0));
        due("two miles: glue 14", 40, y.best(2, 0, 0, 14, 1));
        // Five times ahead of twelve MINUTES: 12 and 15 are 27, mending without glue is 27.
        BucketTube z = Due.tube("pressure 20;hole 1 rim 1;leak 5000*(1+(minute<6));holds minutes;");
        int times = z.ride(2, 0);
        due("pumped", 8, times);
        due("MINUTES", 12 + 24, z.ride(2, 1));
        due("glue 8", 35, z.best(2, 0, 0, 8, 1));
        due("glue 9: like ones", 0, z.best(2, 0, 0, 9, 0));
        due("glue 9: like ones", 36, z.best(2, 0, 0, 9, 1));
        due("glue 10", 1, z.best(2, 0, 0, 10, 0));
        due("glue 10", 36, z.best(2, 0, 0, 10, 1));
        // Pumping that takes just as long as a walk: three miles are 60, 18 and 3 by 14 are 60.
        BucketTube w = Due.tube("pressure 20;hole 1 rim 1;leak 5000*2*(minute<15);holds 0;");
        due("pumped 14 times", 14, w.ride(3, 0));
        due("riding ahead of walking", 1, w.best(3, 0, 0, 1, 0));
        due("like ones", 60, w.best(3, 0, 0, 1, 1));
        BucketTube v = Due.tube("pressure 20;hole 1 rim 1;leak 5000*2*(minute<16);holds 0;");
        due("one more: a walk", 2, v.best(3, 0, 0, 1, 0));
    }

    /** FLAT IF: bits of HOLES that there are, SLOW or not, MENDED or not. */
    private static void flatIfSets() {
        BucketTube x = Due.tube("pressure 20;hole 0 rim 1;hole 1 rim 2 slow;hole 2 rim 4;hole 3 rim 8;hole 4 rim 16;"
                + "hole 5 rim 24;leak size*100;");
        int[] sizes = {1, 2, 4, 8, 16, 24};
        x.patch(0, 60, 0, 0, 1);
        for (int set = 1; set < 64; set++) {
            int gone = 0;
            for (int i = 0; i < 6; i++) {
                gone += (set >> i & 1) * 100 * sizes[i];
            }
            due("set " + set, 10000 / gone + 1, x.flatIf(set, set % 2 == 0));
        }
        due("no HOLE", -1, x.flatIf(0, true));
        Due.due("a seventh", Due.IAE, () -> x.flatIf(64, true));
        Due.due("all and a seventh", Due.IAE, () -> x.flatIf(127, true));
        Due.due("all bits", Due.IAE, () -> x.flatIf(-1, true));
        due("load", 1, Due.tube("pressure 10;hole 1 rim 1;leak load;").flatIf(1, true));
        due("no load", -1, Due.tube("pressure 10;hole 1 rim 1;leak load;").flatIf(1, false));
    }

    /** WHICH LEAK: all sets, the least as bits; what is gone is THE PRESSURE at most. */
    private static void whichSets() {
        BucketTube x = Due.tube("pressure 20;hole 0 rim 1;hole 1 rim 1;hole 2 rim 1 slow;hole 3 rim 1;hole 4 rim 1;"
                + "hole 5 rim 1;leak 100;");
        x.patch(3, 60, 0, 0, 1);
        int[] many = {1, 6, 15, 20, 15, 6, 1, 0};
        int[] least = {0, 1, 3, 7, 15, 31, 63, -1};
        for (int i = 0; i < many.length; i++) {
            due("sets of " + i, many[i], x.which(100 * i, false, 0));
            due("least of " + i, least[i], x.which(100 * i, false, 1));
        }
        due("one more", 0, x.which(301, true, 0));
        due("one less", -1, x.which(299, true, 1));
        due("below 0", 0, x.which(-1, true, 0));
        due("far below 0", -1, x.which(Integer.MIN_VALUE, true, 1));
        due("far above", 0, x.which(Integer.MAX_VALUE, true, 0));
        BucketTube none = Due.tube("hole 0 rim 1;hole 1 rim 2;leak 0;");
        due("nothing leaks: all sets", 4, none.which(0, true, 0));
        due("nothing leaks: no HOLE", 0, none.which(0, true, 1));
        BucketTube load = Due.tube("hole 0 rim 1;hole 1 rim 2;leak 10*size*load;");
        due("no load", 4, load.which(0, false, 0));
        due("load", 1, load.which(0, true, 0));
        due("load", 2, load.which(20, true, 1));
        BucketTube most = Due.tube("pressure 10;hole 0 rim 1;hole 1 rim 2;hole 2 rim 3;leak 4999*size+size;");
        due("5000", 1, most.which(5000, false, 0));
        due("all there is: 1, with it 0, 2 and more", 6, most.which(10000, false, 0));
        due("all there is, the least", 2, most.which(10000, false, 1));
        due("no more than there is", 0, most.which(15000, false, 0));
        most.minutes(600, true);
        due("none left", 8, most.which(0, false, 0));
        BucketTube now = Due.tube("hole 0 rim 1;leak 5+minute;");
        now.minutes(3, true);
        due("the next MINUTE", 1, now.which(8, false, 0));
        due("not the first one", 0, now.which(5, false, 0));
        BucketTube pressed = Due.tube("pressure 20;hole 0 rim 1;leak pressure*100;");
        due("by THE PRESSURE", 1, pressed.which(2000, false, 1));
        pressed.minutes(1, false);
        due("by THE PRESSURE now", 1, pressed.which(1800, false, 1));
        due("no HOLES", 1, new BucketTube().which(0, false, 0));
        due("no HOLES", 0, new BucketTube().which(0, false, 1));
        due("no HOLES", -1, new BucketTube().which(1, false, 1));
    }

    /** RIDES: 1 to 60 miles, 100 at most; behind none of a ride's MINUTES below 10000. */
    private static void ridesEnds() {
        due("10000 behind six", 100, Due.tube("pressure 16;hole 1 rim 1 slow;leak 1000;").rides(1));
        due("9994 behind six", 0, Due.tube("pressure 16;hole 1 rim 1 slow;leak 1001;").rides(1));
        due("9999 behind six", 0, Due.tube("pressure 16;hole 1 rim 1;leak 1000+(minute=5);").rides(1));
        due("in the 7th MINUTE", 1, Due.tube("pressure 16;hole 1 rim 1;leak 1000+(minute=6);").rides(1));
        due("60 miles", 100, Due.tube("pressure 16;hole 1 rim 1;leak 16;").rides(60));
        due("60 miles, 5760 gone, 5760 and 360 are not", 0, Due.tube("pressure 16;hole 1 rim 1;leak 17;").rides(60));
        due("59 miles of 17", 0, Due.tube("pressure 16;hole 1 rim 1;leak 17;").rides(59));
        due("58 miles of 17", 100, Due.tube("pressure 16;hole 1 rim 1;leak 17;").rides(58));
        due("PRESSURE 10, none leaks", 100, Due.tube("pressure 10;").rides(60));
        due("PRESSURE 10, 1 is gone", 0, Due.tube("pressure 10;hole 1 rim 1;leak 1;").rides(1));
        due("PRESSURE 9", 0, Due.tube("pressure 9;").rides(60));
        due("under load", 100, Due.tube("pressure 16;hole 1 rim 1;leak 1000*load;").rides(1));
        due("under load", 0, Due.tube("pressure 16;hole 1 rim 1;leak 1001*load;").rides(1));
        BucketTube x = Due.tube("pressure 16;hole 1 rim 1;leak 5000*2;");
        x.minutes(1, false);
        x.patch(0, 60, 0, 0, 1);
        due("each is pumped ahead", 100, x.rides(60));
        due("THE PRESSURE stays", 6000, x.count(15));
    }

    private static void ridesMinute() {
        for (int last : new int[] {1, 2, 50, 98, 99, 100, 101}) {
            BucketTube x = Due.tube("pressure 16;hole 1 rim 1;leak 1000*(" + (12 * last - 1) + "<minute)*6+1;");
            due("two miles each, till " + last, Math.min(last, 100), x.rides(2));
        }
        BucketTube x = Due.tube("pressure 16;hole 1 rim 1;leak (23<minute)*9999;");
        due("four", 4, x.rides(1));
        x.minutes(1, false);
        due("one MINUTE was", 3, x.rides(1));
        x.minutes(17, false);
        due("18 were", 1, x.rides(1));
        x.minutes(1, false);
        due("19 were", 0, x.rides(1));
        due("no MINUTE by asking", 19, x.count(16));
    }
}
