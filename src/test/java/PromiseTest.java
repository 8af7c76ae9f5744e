/** The document's promises one by one: what is ordinary, the edges that it names, and wrong inputs. */
public final class PromiseTest {
    private static final long NSE = Due.NSE;
    private static final long IAE = Due.IAE;
    private static final String SMALL = "tube 12;hand 3;hole 5 outer 10;hole 0 rim 4 slow;pressure 50;mark 2;"
            + "clung 20 50;miss 50;noise 90;";

    private PromiseTest() {
    }

    public static void main(String[] args) {
        newObject();
        feed();
        shed();
        faults();
        faultsInExpressions();
        expressions();
        count();
        hole();
        leakAndMinutes();
        pumpAndUndo();
        actsKept();
        flat();
        dip();
        listen();
        weightAndOdds();
        next();
        plan();
        seek();
        airAndLine();
        holdsAndGlue();
        patch();
        feelAndFits();
        cause();
        ride();
        best();
        dark();
        tacks();
        thorn();
        quarter();
        sweep();
        seeks();
        enough();
        ofInchAndSide();
        flatIf();
        which();
        rides();
        imageAndRestore();
        Due.end();
    }

    private static void due(String what, long want, Due.Call call) {
        Due.due(what, want, call);
    }

    private static long one(boolean b) {
        return b ? 1 : 0;
    }

    /** Promise 1. */
    private static void newObject() {
        BucketTube x = new BucketTube();
        int[] want = {48, 3, 60, 90, 60, 0, 30, 50, 0, 0, 0, 5, 2, 1, 1, 60000, 0, 0, 0, 0, 0};
        for (int i = 0; i < want.length; i++) {
            int what = i;
            due("1 count " + i, want[i], () -> x.count(what));
        }
        due("1 fault", -1, x::fault);
        due("1 NONE", -1, () -> BucketTube.NONE);
        due("1 no hole", NSE, () -> x.hole(0, 0));
        due("1 no plan", NSE, () -> x.planned(0));
        due("1 no image", 0, () -> one(x.restore()));
        due("1 weight of outer", 5000000000L / 48, () -> x.weight(4));
        due("1 weight of left", 2000000000L / 96, () -> x.weight(5));
        due("1 weight of valve", 1000000000L / 48 + 1000000000L, () -> x.weight(3));
        due("1 nothing leaks", 0, () -> x.leak(true));
    }

    /** Promise 2. */
    private static void feed() {
        BucketTube x = new BucketTube();
        for (int i = 1; i <= 35; i++) {
            due("2 feed", 20 * i, () -> x.feed(0x20202020, 0x20202020, 0x20202020, 0x20202020, 0x0a0a0a0a));
        }
        due("2 feed too much", -1, () -> x.feed(1, 2, 3, 4, 5));
        due("2 tape", 700, () -> x.count(18));
        due("2 blanks tell nothing", 0, () -> x.shed(700));
        due("2 tape is empty", 0, () -> x.count(18));
        due("2 feed again", 20, () -> x.feed(0x68616e64, 0x2037203b, 0x20202020, 0x20202020, 0xff00ff00));
        due("2 highest first", 0, () -> x.shed(8));
        due("2 hand", 7, () -> x.count(1));
    }

    /** Promise 3. */
    private static void shed() {
        BucketTube x = Due.tube(SMALL);
        due("3 more than the tape has", IAE, () -> x.shed(1));
        Due.feed(x, "hand 4;hand 5;      ");
        due("3 below 0", IAE, () -> x.shed(-1));
        due("3 more than the tape has", IAE, () -> x.shed(21));
        due("3 nothing changes", 20, () -> x.count(18));
        due("3 first bytes only", 0, () -> x.shed(7));
        due("3 tape empty", 0, () -> x.count(18));
        due("3 hand", 4, () -> x.count(1));
        due("3 all anew", 48, () -> x.count(0));
        due("3 all anew", 0, () -> x.count(8));
        due("3 empty text", 0, () -> x.shed(0));
        due("3 empty text: hand", 3, () -> x.count(1));

        BucketTube y = Due.tube(SMALL);
        y.dip(0, 1);
        y.minutes(3, true);
        y.plan(4);
        y.image();
        due("3 a fault", 1, () -> Due.shed(y, "hand 4;frog;"));
        due("3 stays: hand", 3, () -> y.count(1));
        due("3 stays: holes", 2, () -> y.count(8));
        due("3 stays: acts", 2, () -> y.count(17));
        due("3 stays: minutes", 3, () -> y.count(16));
        due("3 stays: plan", 1, () -> y.planned(10));
        due("3 stays: image", 1, () -> one(y.restore()));
        due("3 tape empty behind a fault", 0, () -> y.count(18));
        due("3 status", 1, () -> y.count(19));
        due("3 well", 0, () -> Due.shed(y, "pressure 7;"));
        due("3 acts gone", 0, () -> y.count(17));
        due("3 minutes gone", 0, () -> y.count(16));
        due("3 pressure anew", 7000, () -> y.count(15));
        due("3 plan gone", NSE, () -> y.planned(0));
        due("3 image gone", 0, () -> one(y.restore()));
        due("3 undo", -1, y::undo);
        due("3 status stays", 1, () -> y.count(19));
    }

    private static void fault(int kind, int place, String text) {
        BucketTube x = new BucketTube();
        due("4 shed of " + text, kind, () -> Due.shed(x, text));
        due("4 fault of " + text, place, x::fault);
        due("4 status of " + text, kind == 0 ? 0 : 1, () -> x.count(19));
    }

    /** Promises 3 and 4. */
    private static void faults() {
        fault(0, -1, "");
        fault(0, -1, "  \n tube 84 ;\n");
        fault(0, -1, "tube12;hole11rim24slow;mark 0011;");
        fault(1, 0, "\ttube 12;");
        fault(1, 0, "Tube 12;");
        fault(1, 4, "tube;");
        fault(1, 4, "tube");
        fault(1, 8, "tube 12 ");
        fault(1, 8, "tube 12 12345;");
        fault(1, 0, "tubes 12;");
        fault(1, 8, "tube 12;tube 12;");
        fault(2, 5, "tube 11;");
        fault(2, 5, "tube 85;");
        fault(2, 5, "tube 00012;");
        fault(1, 0, ";");
        fault(1, 0, "7");
        fault(1, 0, "12345");
        fault(1, 5, "hand -3;");
        fault(1, 6, "hand 3");
        fault(1, 9, "hand 3   ");
        fault(1, 7, "hand 3 4;");
        fault(2, 5, "hand 0;");
        fault(0, -1, "hand 9;");
        fault(2, 5, "hand 10;");
        fault(2, 5, "miss 100;");
        fault(0, -1, "miss 99;noise 1;pressure 100;");
        fault(2, 6, "noise 0;");
        fault(2, 6, "noise 100;");
        fault(2, 9, "pressure 101;");
        fault(0, -1, "pressure 1;mark 0;");
        fault(1, 0, "gand 3;");
        fault(1, 0, "hans 3;");
        fault(1, 0, "han 3;");
        fault(1, 6, "cause chorn 1;");
        fault(2, 5, "mark 48;");
        fault(2, 13, "tube 12;mark 12;");
        fault(0, -1, "tube 84;mark 83;hole 83 left 1;");
        fault(2, 13, "tube 84;mark 84;");
        fault(2, 13, "tube 12;hole 12 rim 1;");
        fault(1, 7, "hole 5 slow 1;");
        fault(1, 7, "hole 5 12345 1;");
        fault(2, 13, "hole 5 outer 0;");
        fault(2, 13, "hole 5 outer 25 slow;");
        fault(1, 21, "hole 5 outer 24 slow slow;");
        fault(1, 16, "hole 5 outer 24 fast;");
        fault(4, 22, "hole 5 outer 1;hole 5 outer 2;");
        fault(4, 21, "hole 5 left 1;hole 5 left 99;");
        fault(0, -1, "hole 5 outer 1;hole 5 left 2;hole 5 right 2;hole 5 rim 2;");
        fault(5, 7, "hand 3;hand 0;");
        fault(5, 7, "miss 3;miss 3;");
        fault(5, 8, "noise 3;noise 3;");
        fault(5, 11, "pressure 3;pressure 3;");
        fault(5, 7, "mark 3;mark 3;");
        fault(5, 10, "clung 3 3;clung 3 3;");
        fault(5, 8, "holds 1;holds 1;");
        fault(5, 7, "leak 1;leak 1;");
        fault(2, 6, "clung 100 1;");
        fault(2, 8, "clung 0 100;");
        fault(2, 8, "clung 0 0;");
        fault(0, -1, "clung 0 99;");
        fault(0, -1, "clung 99 1;");
        fault(1, 5, "cause");
        fault(1, 6, "cause hand 1;");
        fault(1, 6, "cause 12345 1;");
        fault(2, 12, "cause valve 100;");
        fault(5, 20, "cause spoke 1;cause spoke 100;");
        fault(0, -1, "cause thorn 0;cause kerb 99;cause spoke 0;cause valve 0;");
        fault(6, 56, "cause thorn 0;cause kerb 0;cause spoke 0;cause valve 0; ");
        fault(1, 54, "cause thorn 0;cause kerb 0;cause spoke 0;cause valve 0");
        fault(2, 6, "try 9 0;");
        fault(2, 4, "try 100 1;");
        fault(2, 6, "try 9 100;");
        fault(1, 5, "try 9;");
        fault(2, 6, "rider 40 1 1 flat;");
        fault(2, 8, "rider 1 40 1 flat;");
        fault(2, 10, "rider 1 1 24 flat;");
        fault(0, -1, "rider 39 0 23 well;rider 0 39 0 flat;");
        fault(1, 11, "rider 1 1 1;");
        fault(1, 12, "rider 1 1 1 12345;");
        String six = "hole 0 rim 1;hole 1 rim 1;hole 2 rim 1;hole 3 rim 1;hole 4 rim 1;hole 5 rim 1;";
        fault(0, -1, six);
        fault(2, 78, six + "hole 0 rim 1;");
        fault(2, 78, six + "hole;");
        String tries = "try 1 1;try 1 1;try 1 1;try 1 1;try 1 1;try 1 1;";
        fault(0, -1, tries);
        fault(2, 48, tries + "try");
        StringBuilder riders = new StringBuilder();
        for (int i = 0; i < 8; i++) {
            riders.append("rider 1 1 1 flat;");
        }
        fault(0, -1, riders.toString());
        fault(2, 136, riders + "rider ;");
        fault(1, 6, "hand 3\u00ff;");
        BucketTube x = new BucketTube();
        Due.shed(x, "frog;");
        Due.shed(x, "hand;");
        due("4 the latest", 4, x::fault);
        due("4 status", 2, () -> x.count(19));
        due("4 a refused call is no shed", IAE, () -> x.shed(5));
        due("4 the latest", 4, x::fault);
        Due.shed(x, "hand 1;");
        due("4 none", -1, x::fault);
    }

    private static void faultsInExpressions() {
        fault(1, 5, "leak ;");
        fault(1, 4, "leak");
        fault(1, 5, "leak -1;");
        fault(1, 7, "leak 1 2;");
        fault(1, 7, "leak 1 12345;");
        fault(1, 7, "leak 1 size;");
        fault(1, 7, "leak 1 not 1;");
        fault(2, 5, "leak 00001;");
        fault(0, -1, "leak 9999;holds 0;");
        fault(3, 5, "leak frog;");
        fault(3, 5, "leak or 1;");
        fault(3, 7, "leak 1+not 1;");
        fault(3, 7, "leak 1<not 1;");
        fault(3, 9, "leak not and;");
        fault(3, 5, "leak cold;");
        fault(3, 5, "leak near;");
        fault(3, 6, "holds minute;");
        fault(3, 6, "holds pressure;");
        fault(0, -1, "leak size+side+pressure+minute+load;holds size+side+minutes+cold+damp+near;");
        fault(1, 8, "leak 1<2<3;");
        fault(1, 8, "leak 1=2<3;");
        fault(1, 6, "leak ();");
        fault(1, 7, "leak (1;");
        fault(1, 6, "leak 1);");
        fault(1, 8, "leak (1)(2);");
        fault(0, -1, "holds (((((1)))));");
        fault(2, 12, "holds ((((((1))))));");
        fault(2, 12, "holds ((((((frog))))));");
        fault(2, 12, "holds ((((((not 1))))));");
        fault(2, 12, "holds (((((((1)))))));");
        fault(2, 12, "holds ((((((12345))))));");
        fault(1, 12, "holds (((((()))))));");
        fault(1, 12, "holds ((((((-1))))));");
        fault(1, 12, "holds ((((((");
        fault(0, -1, "leak not not not not not not 1;");
        fault(2, 29, "leak not not not not not not not 1;");
        fault(0, -1, "leak not not not not not not (not not not not not not 1) and not 1;");
    }

    /** What a leak rule gives of one HOLE of SIZE 7 on SIDE 2, at 60 of pressure, in MINUTE 0, under load. */
    private static void gives(int want, String expr) {
        BucketTube x = Due.tube("hole 3 right 7;leak " + expr + ";");
        due("3 leak " + expr, want, () -> x.leak(true));
    }

    private static void expressions() {
        gives(7, "size");
        gives(2, "side");
        gives(60, "pressure");
        gives(0, "minute");
        gives(1, "load");
        gives(7, "1+2*3");
        gives(9, "(1+2)*3");
        gives(5, "9-3-1");
        gives(2, "12/3/2");
        gives(0, "5/0");
        gives(3, "5/0+3");
        gives(3, "(0-7)/2+6");
        gives(3, "7-8/2");
        gives(1, "1<2");
        gives(0, "2<2");
        gives(1, "2=2");
        gives(1, "1+1=2");
        gives(1, "not 0");
        gives(0, "not 5");
        gives(1, "not not 5");
        gives(1, "not 2<1");
        gives(1, "5 and 7");
        gives(0, "5 and 0");
        gives(1, "0 or 7");
        gives(1, "1 or 1 and 0");
        gives(0, "(1 or 1) and 0");
        gives(1, "1 and 1 and 3 or 0");
        gives(50000, "9999*9");
        gives(0, "0-9");
        // 9999 by itself four times wraps: 9999^4 mod 2^32 as an int, then kept to 50000 at most.
        gives(9999 * 9999 * 9999 * 9999 > 0 ? 50000 : 0, "9999*9999*9999*9999");
        gives((int) (9999L * 9999 * 9999) / 99999 > 0 ? 1 : 0, "0<9999*9999*9999");
        StringBuilder longest = new StringBuilder("1");
        for (int i = 0; i < 300; i++) {
            longest.append("+1");
        }
        gives(301, longest.toString());
        gives(1, "0 or 1 and 1<1+1*(0 or 1 and 1<1+1*(0 or 1 and 1<1+1*(0 or 1 and 1<1+1*(0 or 1 and 1<1+1*(0 or 1 and 0<1+1*1)))))");
    }

    /** Promise 5. */
    private static void count() {
        BucketTube x = Due.tube("tube 30;hand 4;miss 55;noise 85;pressure 72;mark 11;clung 40 70;hole 1 rim 2;"
                + "try 1 2;try 3 4;rider 1 2 3 well;rider 1 2 3 well;rider 1 2 3 flat;"
                + "cause valve 9;cause spoke 8;cause kerb 7;cause thorn 6;");
        int[] want = {30, 4, 55, 85, 72, 11, 40, 70, 1, 2, 3, 6, 7, 8, 9, 72000, 0, 0, 0, 0, 0};
        for (int i = 0; i < want.length; i++) {
            int what = i;
            due("5 count " + i, want[i], () -> x.count(what));
        }
        x.minutes(5, false);
        x.dip(99, 1);
        x.feed(1, 1, 1, 1, 1);
        due("5 pressure", 72000 - 144 - 142 * 4, () -> x.count(15));
        due("5 minutes", 5, () -> x.count(16));
        due("5 acts", 1, () -> x.count(17));
        due("5 tape", 20, () -> x.count(18));
        due("5 refused texts", 0, () -> x.count(19));
        due("5 refused acts", 1, () -> x.count(20));
        due("5 wrong", NSE, () -> x.count(21));
        due("5 wrong", NSE, () -> x.count(-1));
    }

    /** Promise 6. */
    private static void hole() {
        BucketTube x = Due.tube(SMALL);
        int[][] want = {{5, 0, 10, 0, 0}, {0, 3, 4, 1, 0}};
        for (int h = 0; h < 2; h++) {
            for (int w = 0; w < 5; w++) {
                int hole = h;
                int what = w;
                due("6 hole " + h + " " + w, want[h][w], () -> x.hole(hole, what));
            }
        }
        due("6 wrong", NSE, () -> x.hole(2, 0));
        due("6 wrong", NSE, () -> x.hole(-1, 0));
        due("6 wrong", NSE, () -> x.hole(0, 5));
        due("6 wrong", NSE, () -> x.hole(0, -1));
        x.patch(1, 60, 0, 0, 1);
        due("6 mended", 1, () -> x.hole(1, 4));
        due("6 mended", 0, () -> x.hole(0, 4));
        // A slow hole must leave nothing behind for the next text.
        Due.shed(x, "hole 1 rim 1 slow;");
        Due.shed(x, "hole 1 rim 1;");
        Due.shed(x, "hole 1 rim 1;");
        due("6 not slow", 0, () -> x.hole(0, 3));
    }

    /** Promises 7 and 8. */
    private static void leakAndMinutes() {
        BucketTube x = Due.tube(SMALL);
        due("7 plain ones", 500, () -> x.leak(false));
        due("7 slow ones too", 700, () -> x.leak(true));
        due("8 minutes", 49300, () -> x.minutes(1, true));
        due("8 minutes", 49300 - 490 - 480, () -> x.minutes(2, false));
        due("8 none", -1, () -> x.minutes(0, true));
        due("8 none", -1, () -> x.minutes(601, true));
        due("8 none", -1, () -> x.minutes(-5, true));
        due("8 status", 3, () -> x.count(20));
        due("8 acts", 2, () -> x.count(17));
        due("8 how many", 3, () -> x.count(16));
        x.minutes(600, true);
        due("8 how many", 603, () -> x.count(16));
        due("8 pressure stays at 999 and less", 1, () -> one(x.count(15) < 1000));
        due("7 nothing more", 0, () -> x.leak(true));

        BucketTube y = Due.tube("pressure 30;hole 1 rim 1;hole 2 rim 2;leak 9000*size;");
        due("7 together", 27000, () -> y.leak(false));
        due("8 first", 3000, () -> y.minutes(1, false));
        due("7 the pressure at most", 3000, () -> y.leak(false));
        due("8 0 at least", 0, () -> y.minutes(1, false));
        due("7 none left", 0, () -> y.leak(false));

        BucketTube z = Due.tube("hole 1 rim 1;hole 2 rim 1;leak pressure*10;");
        due("8 all by the pressure ahead", 60000 - 1200, () -> z.minutes(1, false));
        due("8 pressure cut down", 60000 - 1200 - 2 * 580, () -> z.minutes(1, false));

        BucketTube m = Due.tube("hole 1 rim 1;leak minute*100+load;");
        due("8 minute 0", 60000, () -> m.minutes(1, false));
        due("8 minutes 1 and 2", 60000 - 100 - 200, () -> m.minutes(2, false));
        due("7 minute 3", 301, () -> m.leak(true));
        BucketTube k = Due.tube("hole 1 rim 1;pressure 100;leak 9999*9999;");
        due("7 kept to 50000", 50000, () -> k.leak(true));
    }

    /** Promises 9 and 10. */
    private static void pumpAndUndo() {
        BucketTube x = Due.tube(SMALL);
        due("10 none", -1, x::undo);
        x.minutes(1, false);
        due("9 as it was", 49500, x::pump);
        due("9 full", 50000, () -> x.count(15));
        due("9 minutes stay", 1, () -> x.count(16));
        due("9 an act, though it is full", 50000, x::pump);
        due("9 acts", 3, () -> x.count(17));
        x.dip(0, 2);
        x.listen(1, 3);
        x.thorn(4);
        x.patch(0, 60, 0, 0, 1);
        due("10 left", 6, x::undo);
        due("10 patch", 0, () -> x.hole(0, 4));
        due("10 left", 5, x::undo);
        due("10 thorn", 416666666, () -> x.weight(40));
        due("10 left", 4, x::undo);
        due("10 listen", 416666666, () -> x.weight(4 * 3));
        due("10 left", 3, x::undo);
        due("10 dip", 1083333333, () -> x.weight(3));
        due("10 left", 2, x::undo);
        due("10 left", 1, x::undo);
        due("10 pump", 49500, () -> x.count(15));
        due("10 left", 0, x::undo);
        due("10 minutes", 50000, () -> x.count(15));
        due("10 minutes", 0, () -> x.count(16));
        due("10 none", -1, x::undo);
        due("10 not counted", 0, () -> x.count(20));
    }

    /** Promise 10: forty are kept. */
    private static void actsKept() {
        BucketTube x = Due.tube("hole 1 rim 1;leak 1;");
        for (int i = 0; i < 45; i++) {
            x.minutes(1, false);
        }
        due("10 forty", 40, () -> x.count(17));
        for (int i = 39; i >= 0; i--) {
            due("10 left", i, x::undo);
        }
        due("10 the latest ones", 5, () -> x.count(16));
        due("10 pressure", 59995, () -> x.count(15));
        due("10 none", -1, x::undo);
        due("10 stays", 5, () -> x.count(16));
    }

    /** Promise 11. */
    private static void flat() {
        BucketTube x = Due.tube("pressure 20;hole 1 rim 1;leak 5;");
        due("11 2001 MINUTES are too many", -1, () -> x.flat(false));
        BucketTube y = Due.tube("pressure 20;hole 1 rim 1;leak 5+(minute=0);");
        due("11 the 2000th", 2000, () -> y.flat(false));
        BucketTube z = Due.tube("pressure 20;hole 1 rim 1;leak 5000;");
        due("11 10000 isn't flat", 3, () -> z.flat(false));
        z.minutes(2, false);
        due("11 from now on", 1, () -> z.flat(true));
        z.minutes(1, false);
        due("11 it is", 0, () -> z.flat(false));
        due("11 it is", 0, () -> Due.tube("pressure 9;").flat(false));
        due("11 none", -1, () -> Due.tube("pressure 10;").flat(true));
        BucketTube s = Due.tube("hole 1 rim 24 slow;");
        due("11 slow", -1, () -> s.flat(false));
        due("11 slow under load", 1, () -> one(s.flat(true) > 0));
        BucketTube w = Due.tube("hole 1 rim 1;leak (100<minute)*9999*9;");
        // 50000 at most in the 102nd MINUTE: 10000 are left, which isn't flat.
        due("11 none at first", 103, () -> w.flat(false));
        w.minutes(50, false);
        due("11 minute goes on", 53, () -> w.flat(false));
        due("11 nothing changes", 50, () -> w.count(16));
    }

    /** Promise 12. */
    private static void dip() {
        BucketTube x = Due.tube(SMALL);
        due("12 likeliest", 3, () -> x.dip(0, 1));
        due("12 its weight", 541666666, () -> x.weight(3));
        due("12 likeliest", 12, () -> x.dip(0, 1));
        due("12 cut down each second", 1083333333 / 2 / 2, () -> x.weight(3));
        due("12 round", 12, () -> x.dip(11, 1));
        due("12 eleven", 208333333, () -> x.weight(44));
        due("12 one", 416666666 / 2 / 2 / 2, () -> x.weight(4));
        due("12 two", 416666666 / 2 / 2, () -> x.weight(8));
        due("12 three", 416666666, () -> x.weight(12));
        due("12 ten", 416666666, () -> x.weight(40));
        due("12 none", -1, () -> x.dip(12, 1));
        due("12 none", -1, () -> x.dip(-1, 1));
        due("12 none", -1, () -> x.dip(0, 0));
        due("12 none", -1, () -> x.dip(0, 601));
        due("12 status", 4, () -> x.count(20));
        due("12 acts", 3, () -> x.count(17));
        due("12 so long", 12, () -> x.dip(0, 600));
        due("12 nothing left", 0, () -> x.weight(3));
    }

    /** Promise 13. */
    private static void listen() {
        BucketTube x = Due.tube("tube 13;noise 10;");
        long outer = 5000000000L / 13;
        due("13 likeliest", 13 * 0 + 16, () -> x.listen(0, 9));
        // 13 INCHES: 0 to 3, 4 to 6, 7 to 9, 10 to 12.
        due("13 inch 3", 0, () -> x.weight(12));
        due("13 inch 4", outer, () -> x.weight(16));
        due("13 second", 28, () -> x.listen(1, 1));
        due("13 inch 6", outer / 10, () -> x.weight(24));
        due("13 inch 7", outer, () -> x.weight(28));
        due("13 fourth", 28, () -> x.listen(3, 2));
        due("13 inch 12", outer * 10 / 100 * 10 / 100, () -> x.weight(48));
        due("13 inch 9", outer, () -> x.weight(36));
        due("13 none", -1, () -> x.listen(4, 1));
        due("13 none", -1, () -> x.listen(-1, 1));
        due("13 none", -1, () -> x.listen(0, 0));
        due("13 none", -1, () -> x.listen(0, 601));
        due("13 status", 4, () -> x.count(20));
        due("13 acts", 3, () -> x.count(17));
        due("13 600", 28, () -> x.listen(0, 600));
    }

    /** Promises 14 and 15. */
    private static void weightAndOdds() {
        BucketTube x = Due.tube(SMALL);
        due("14 outer", 416666666, () -> x.weight(0));
        due("14 left", 83333333, () -> x.weight(1));
        due("14 right", 83333333, () -> x.weight(46));
        due("14 rim", 83333333, () -> x.weight(47));
        due("14 valve", 1083333333, () -> x.weight(3));
        due("14 wrong", NSE, () -> x.weight(48));
        due("14 wrong", NSE, () -> x.weight(-1));
        due("15 odds", 120, () -> x.odds(3));
        due("15 odds", 46, () -> x.odds(0));
        due("15 odds", 9, () -> x.odds(47));
        due("15 wrong", NSE, () -> x.odds(48));
        due("15 wrong", NSE, () -> x.odds(-1));
        for (int i = 0; i < 12; i++) {
            x.dip(i, 600);
        }
        due("15 all are 0", 0, () -> x.odds(3));
        due("16 all are 0", 0, () -> x.next(0));
        due("16 all are 0", 0, () -> x.next(1));
        due("16 all are 0", 600, () -> x.next(2));
        due("39 all are 0", 0, () -> x.ofInch(3));
        due("40 all are 0", 0, () -> x.ofSide(3));
        due("38 all are 0", 0, () -> x.enough(0));
        due("35 all are 0", 0, x::quarter);
    }

    /** Promise 16. */
    private static void next() {
        BucketTube x = Due.tube(SMALL);
        due("16 likeliest", 3, () -> x.next(0));
        due("16 next", 0, () -> x.next(1));
        due("16 how long", 1, () -> x.next(2));
        due("16 wrong", NSE, () -> x.next(3));
        due("16 wrong", NSE, () -> x.next(-1));
        x.dip(0, 1);
        due("16 round", 10, () -> x.next(1));
        // A valve alone: each window with INCH 0 in it is as good, the least is 0, till all is cut to 0 and beyond.
        BucketTube v = Due.tube("hand 2;miss 99;cause thorn 0;cause kerb 0;cause spoke 0;cause valve 1;");
        due("16 likeliest", 3, () -> v.next(0));
        due("16 next", 0, () -> v.next(1));
        due("16 600 at most", 600, () -> v.next(2));
        due("16 a thing of now", 0, () -> v.count(17));
        BucketTube t = Due.tube("tube 12;hand 1;miss 50;cause kerb 0;cause spoke 0;cause valve 0;");
        for (int i = 0; i < 3; i++) {
            t.thorn(7);
        }
        // 1000 by 50 of 100 nine times is below 1.95, then INCH 7 is no more than INCH 5 was.
        due("16 how long, of two alike", 1, () -> t.next(2));
        BucketTube u = Due.tube("tube 12;hand 1;miss 50;mark 5;cause kerb 0;cause spoke 0;cause valve 0;");
        for (int i = 0; i < 3; i++) {
            u.thorn(5);
        }
        due("16 next", 0, () -> u.next(1));
        due("16 till it is as another", 10, () -> u.next(2));
    }

    /** Promises 17 and 18. */
    private static void plan() {
        BucketTube x = Due.tube(SMALL);
        due("18 none kept", NSE, () -> x.planned(0));
        due("17 none", 0, () -> x.plan(0));
        due("18 kept", 0, () -> x.planned(0));
        due("17 two", 2, () -> x.plan(2));
        due("18 inch 0", 1, () -> x.planned(0));
        due("18 inch 10", 1, () -> x.planned(10));
        due("18 inch 5", 0, () -> x.planned(5));
        due("17 wrong", IAE, () -> x.plan(601));
        due("17 wrong", IAE, () -> x.plan(-1));
        due("18 still kept", 1, () -> x.planned(10));
        due("18 wrong", NSE, () -> x.planned(12));
        due("18 wrong", NSE, () -> x.planned(-1));
        due("17 what one believes stays", 1083333333, () -> x.weight(3));
        due("17 no act", 0, () -> x.count(17));
        x.dip(0, 1);
        due("18 still kept", 1, () -> x.planned(0));
        due("17 by now", 1, () -> x.plan(1));
        due("18 by now", 1, () -> x.planned(10));
        due("18 by now", 0, () -> x.planned(0));
        int inches = x.plan(600);
        int all = 0;
        for (int i = 0; i < 12; i++) {
            all += x.planned(i);
            inches -= x.planned(i) > 0 ? 1 : 0;
        }
        Due.due("17 all of them", 600, all);
        Due.due("17 at so many inches", 0, inches);
    }

    /** A seed whose DRAW of that number is the first one of 99. */
    private static int seedShownAt(int number) {
        for (int first = 0; first < 10000000; first++) {
            int seed = first;
            int draws = 0;
            int drawn;
            do {
                seed = seed * 1103515245 + 12345;
                drawn = (seed >>> 16 & 32767) % 100;
                draws++;
            } while (drawn < 99 && draws <= number);
            if (drawn >= 99 && draws == number) {
                return first;
            }
        }
        throw new IllegalStateException("no such seed");
    }

    /** Promise 19. */
    private static void seek() {
        BucketTube x = Due.tube("hole 0 rim 1;hole 1 rim 1;hole 2 rim 1 slow;miss 55;");
        // 5 by 1103515245 and 12345 has 18655 as bits 16 to 30: a DRAW of 55.
        due("19 seconds", 1, () -> x.seek(5, false, 0));
        due("19 hole", 0, () -> x.seek(5, false, 1));
        due("19 wrong", NSE, () -> x.seek(5, false, 2));
        due("19 wrong", NSE, () -> x.seek(5, false, -1));
        BucketTube y = Due.tube("hole 0 rim 1;hole 1 rim 1;hole 2 rim 1 slow;miss 56;");
        // The next DRAWS are of 5's row: hole 1 in the same SECOND.
        int seed = (5 * 1103515245 + 12345) * 1103515245 + 12345;
        int draw = (seed >>> 16 & 32767) % 100;
        due("19 the next draw", draw >= 56 ? 1 : 0, () -> one(y.seek(5, false, 0) == 1));
        due("19 none leaks", -1, () -> Due.tube("hole 0 rim 1 slow;").seek(5, false, 0));
        due("19 none leaks", -1, () -> Due.tube("hole 0 rim 1 slow;").seek(5, false, 1));
        due("19 slow under load", 0, () -> Due.tube("hole 0 rim 1 slow;").seek(5, true, 1));
        // Valve alone: NEXT is 0 for ever, a hole at 20 is never looked at.
        BucketTube v = Due.tube("hole 20 rim 1;hole 2 rim 1;cause thorn 0;cause kerb 0;cause spoke 0;");
        due("19 which is looked at", 1, () -> v.seek(5, false, 1));
        v.patch(1, 60, 0, 0, 1);
        due("19 mended", -1, () -> v.seek(5, false, 1));
        due("19 never looked at", -1, () -> v.seek(5, false, 0));
        due("19 no act", 1, () -> v.count(17));
        // One DRAW each SECOND: seeds whose 600th or 601st DRAW is the first of 99.
        BucketTube w = Due.tube("hole 0 rim 1;miss 99;cause thorn 0;cause kerb 0;cause spoke 0;");
        due("19 the 600th", 600, () -> w.seek(seedShownAt(600), false, 0));
        due("19 not the 601st", -1, () -> w.seek(seedShownAt(601), false, 0));
    }

    /** Promises 20 and 21. */
    private static void airAndLine() {
        BucketTube x = Due.tube(SMALL);
        due("20 at first", 800, () -> x.air(0));
        due("20 a second", 888, () -> x.air(1));
        due("20 two", 941, () -> x.air(2));
        due("20 sixty", 1000, () -> x.air(60));
        due("20 wrong", IAE, () -> x.air(61));
        due("20 wrong", IAE, () -> x.air(-1));
        due("21 at once", 0, () -> x.line(0));
        due("21 at once", 0, () -> x.line(800));
        due("21 a second", 1, () -> x.line(801));
        due("21 a second", 1, () -> x.line(888));
        due("21 two", 2, () -> x.line(889));
        due("21 all", 35, () -> x.line(1000));
        due("21 wrong", IAE, () -> x.line(1001));
        due("21 wrong", IAE, () -> x.line(-1));
        BucketTube y = Due.tube("clung 99 99;");
        due("20 hole's", 10, () -> y.air(0));
        due("21 none", -1, () -> y.line(500));
        due("21 the 60th", 60, () -> y.line(18));
        due("21 none", -1, () -> y.line(19));
        BucketTube z = Due.tube("clung 0 50;");
        due("20 none clung", 1000, () -> z.air(0));
        due("21 none clung", 0, () -> z.line(1000));
        due("20 without", 700, () -> new BucketTube().air(0));
        due("20 without", 823, () -> new BucketTube().air(1));
    }

    /** Promises 22 and 23. */
    private static void holdsAndGlue() {
        BucketTube x = Due.tube(SMALL);
        due("22 without a rule", 96, () -> x.holds(0, 8, 0, 0));
        due("22 at most", 100, () -> x.holds(0, 60, 100, 100));
        due("22 at least", 0, () -> x.holds(1, 0, 0, 0));
        due("22 wrong hole", NSE, () -> x.holds(2, 61, 0, 0));
        due("22 wrong hole", NSE, () -> x.holds(-1, 0, 0, 0));
        due("22 minutes", IAE, () -> x.holds(0, 61, 0, 0));
        due("22 minutes", IAE, () -> x.holds(0, -1, 0, 0));
        due("22 cold", IAE, () -> x.holds(0, 0, 101, 0));
        due("22 cold", IAE, () -> x.holds(0, 0, -1, 0));
        due("22 damp", IAE, () -> x.holds(0, 0, 0, 101));
        due("22 damp", IAE, () -> x.holds(0, 0, 0, -1));
        due("23 all", 9, () -> x.glue(0, 0, 0, 100));
        due("23 some", 8, () -> x.glue(0, 0, 0, 96));
        due("23 none wanted", 0, () -> x.glue(0, 0, 0, 0));
        due("23 wrong hole", NSE, () -> x.glue(2, 101, 0, 0));
        due("23 cold", IAE, () -> x.glue(0, 101, 0, 0));
        due("23 damp", IAE, () -> x.glue(0, 0, -1, 0));
        due("23 holds", IAE, () -> x.glue(0, 0, 0, 101));
        due("23 holds", IAE, () -> x.glue(0, 0, 0, -1));
        BucketTube y = Due.tube("tube 20;hole 0 left 3;hole 18 rim 4;hole 3 outer 5;hole 0 right 1;"
                + "holds minutes+near*10-cold/2-damp/4+size+100*(side=0);");
        due("22 near: 18 and the other side", 10 + 20 - 5 - 5 + 3, () -> y.holds(0, 10, 10, 20));
        due("22 near: both of 0", 10 + 20 + 4, () -> y.holds(1, 10, 0, 0));
        due("22 near: three off", 100, () -> y.holds(2, 10, 0, 0));
        due("22 kept to 0", 0, () -> y.holds(3, 0, 100, 0));
        due("23 glue", 57, () -> y.glue(0, 0, 0, 80));
        due("23 none", -1, () -> y.glue(0, 0, 0, 84));
        due("23 the last", 60, () -> y.glue(0, 0, 0, 83));
        BucketTube z = Due.tube("hole 0 left 3;holds (minutes=7)*50+(minutes=9)*60;");
        due("23 the least", 7, () -> z.glue(0, 0, 0, 50));
        due("23 up and down", 9, () -> z.glue(0, 0, 0, 60));
        due("23 none", -1, () -> z.glue(0, 0, 0, 61));
    }

    /** Promise 24. */
    private static void patch() {
        BucketTube x = Due.tube("hole 5 outer 10;hole 6 rim 4;holds minutes;");
        // A DRAW of 55 by seed 5.
        due("24 below", 1, () -> one(x.patch(0, 56, 0, 0, 5)));
        due("24 mended", 1, () -> x.hole(0, 4));
        due("24 it leaks no more", 240, () -> x.leak(true));
        due("24 not below", 0, () -> one(x.patch(0, 55, 0, 0, 5)));
        due("24 it leaks again", 0, () -> x.hole(0, 4));
        due("24 acts", 2, () -> x.count(17));
        due("24 wrong hole", NSE, () -> one(x.patch(2, 61, 0, 0, 5)));
        due("24 wrong hole", NSE, () -> one(x.patch(-1, 0, 0, 0, 5)));
        due("24 minutes", IAE, () -> one(x.patch(0, 61, 0, 0, 5)));
        due("24 minutes", IAE, () -> one(x.patch(0, -1, 0, 0, 5)));
        due("24 cold", IAE, () -> one(x.patch(0, 0, 101, 0, 5)));
        due("24 damp", IAE, () -> one(x.patch(0, 0, 0, 101, 5)));
        due("24 no acts", 2, () -> x.count(17));
        due("24 undone", 1, x::undo);
        due("24 mended once more", 1, () -> x.hole(0, 4));
        due("24 the other", 0, () -> x.hole(1, 4));
    }

    /** Promises 25 and 26. */
    private static void feelAndFits() {
        BucketTube x = Due.tube(SMALL);
        due("25 two", 709, () -> x.feel(5));
        due("25 one", 202, () -> x.feel(0));
        due("25 round", 103, () -> x.feel(11));
        due("25 across", 808, () -> x.feel(6));
        due("25 wrong", NSE, () -> x.feel(12));
        due("25 wrong", NSE, () -> x.feel(-1));
        due("26 one way", 1, () -> x.fits(7));
        due("26 the other way", 1, () -> x.fits(9));
        due("26 mark", 2, () -> x.fits(2));
        due("26 none", 0, () -> x.fits(0));
        due("26 wrong", NSE, () -> x.fits(12));
        due("26 wrong", NSE, () -> x.fits(-1));
        x.patch(0, 60, 0, 0, 1);
        due("26 mended", 1, () -> x.fits(7));
        due("26 two", 3, () -> Due.tube("hole 3 rim 1;hole 45 rim 1;").fits(45));
    }

    /** Promise 27. */
    private static void cause() {
        BucketTube x = Due.tube("tube 12;hole 5 outer 10;hole 0 rim 4;hole 3 left 1;hole 4 right 1;hole 7 rim 1;");
        due("27 thorn", 1000, () -> x.cause(0, 0));
        due("27 no kerb", 0, () -> x.cause(0, 1));
        due("27 thorn", 0, () -> x.cause(0, -1));
        due("27 spoke", 76, () -> x.cause(1, 2));
        due("27 valve", 923, () -> x.cause(1, 3));
        due("27 valve", 3, () -> x.cause(1, -1));
        due("27 kerb", 1000, () -> x.cause(2, 1));
        due("27 kerb", 1, () -> x.cause(3, -1));
        due("27 no valve there", 1000, () -> x.cause(4, 2));
        due("27 wrong", NSE, () -> x.cause(5, 0));
        due("27 wrong", NSE, () -> x.cause(-1, 0));
        due("27 wrong", NSE, () -> x.cause(0, 4));
        due("27 wrong", NSE, () -> x.cause(0, -2));
        BucketTube y = Due.tube("hole 5 outer 10;hole 3 left 1;hole 0 rim 1;cause thorn 0;cause kerb 0;cause spoke 48;");
        due("27 none", -1, () -> y.cause(0, -1));
        due("27 none", 0, () -> y.cause(0, 0));
        due("27 none", -1, () -> y.cause(1, -1));
        due("27 of like ones the least", 2, () -> y.cause(2, -1));
        due("27 half", 500, () -> y.cause(2, 3));
    }

    /** Promise 28. */
    private static void ride() {
        BucketTube x = Due.tube("pressure 20;hole 1 rim 1 slow;leak 1000;");
        due("28 no mile", 0, () -> x.ride(0, 0));
        due("28 no mile", 0, () -> x.ride(0, 1));
        due("28 six", 0, () -> x.ride(1, 0));
        due("28 10 are no flat, the 11th is", 1, () -> x.ride(2, 0));
        due("28 minutes", 15, () -> x.ride(2, 1));
        due("28 ten each", 35, () -> x.ride(60, 0));
        due("28 minutes", 360 + 105, () -> x.ride(60, 1));
        due("28 wrong", NSE, () -> x.ride(61, 2));
        due("28 wrong", NSE, () -> x.ride(0, -1));
        due("28 miles", IAE, () -> x.ride(61, 0));
        due("28 miles", IAE, () -> x.ride(-1, 1));
        due("28 stays", 20000, () -> x.count(15));
        x.minutes(10, true);
        due("28 from now on", 1, () -> x.ride(1, 0));
        x.minutes(1, true);
        due("28 flat, but no mile", 0, () -> x.ride(0, 0));
        BucketTube y = Due.tube("pressure 20;hole 1 rim 1;leak 5000*2+1;");
        due("28 flat all the same", -1, () -> y.ride(1, 0));
        due("28 flat all the same", -1, () -> y.ride(1, 1));
        due("28 no mile", 0, () -> y.ride(0, 1));
        BucketTube z = Due.tube("pressure 20;hole 1 rim 1;leak 5000*2;");
        due("28 once ahead of each", 5, () -> z.ride(1, 0));
        BucketTube m = Due.tube("pressure 20;hole 1 rim 1;leak minute*1000;");
        // 0, 1, 2, 3, then 4 are gone: ten in all; with 5 it is flat, pumped it is not.
        due("28 minute goes on", 1, () -> m.ride(1, 0));
        due("28 till it is too much", -1, () -> m.ride(2, 0));
    }

    /** Promise 29. */
    private static void best() {
        BucketTube x = Due.tube(SMALL);
        due("29 of like ones the least", 1, () -> x.best(0, 0, 0, 100, 0));
        due("29 minutes", 0, () -> x.best(0, 0, 0, 100, 1));
        due("29 ride", 12, () -> x.best(2, 0, 0, 100, 1));
        due("29 wrong", NSE, () -> x.best(61, 0, 0, 0, 2));
        due("29 wrong", NSE, () -> x.best(0, 0, 0, 0, -1));
        due("29 miles", IAE, () -> x.best(61, 0, 0, 0, 0));
        due("29 miles", IAE, () -> x.best(-1, 0, 0, 0, 0));
        due("29 cold", IAE, () -> x.best(0, 101, 0, 0, 0));
        due("29 damp", IAE, () -> x.best(0, 0, 101, 0, 0));
        due("29 holds", IAE, () -> x.best(0, 0, 0, 101, 0));
        due("29 holds", IAE, () -> x.best(0, 0, 0, -1, 0));
        BucketTube y = Due.tube("pressure 20;hole 1 rim 1;hole 2 rim 1 slow;leak 6000;holds minutes*10-cold;");
        // Two holes: 12000 in a MINUTE is flat at once. Mending: 15 and 5 and 5 and 6 for each mile.
        due("29 walk a mile", 2, () -> y.best(1, 0, 0, 50, 0));
        due("29 walk a mile", 20, () -> y.best(1, 0, 0, 50, 1));
        due("29 mend", 0, () -> y.best(2, 0, 0, 50, 0));
        due("29 mend", 15 + 10 + 12, () -> y.best(2, 0, 0, 50, 1));
        due("29 by cold", 15 + 30 + 24, () -> y.best(4, 100, 0, 50, 1));
        due("29 for a holds", 20 * 2, () -> y.best(2, 0, 0, 100, 1));
        y.patch(1, 60, 0, 0, 1);
        due("29 one is mended: it could ride", 6 + 15, () -> y.ride(1, 1));
        due("29 one is mended: a walk is less", 2, () -> y.best(1, 0, 0, 50, 0));
        due("29 one is mended: the other one's glue", 15 + 5 + 12, () -> y.best(2, 0, 0, 50, 1));
        BucketTube z = Due.tube("pressure 20;hole 1 rim 1;leak 5000*4;holds 50;");
        due("29 can't be", 2, () -> z.best(9, 0, 0, 51, 0));
        due("29 can be", 0, () -> z.best(9, 0, 0, 50, 0));
        BucketTube w = Due.tube("");
        due("29 no holes", 1, () -> w.best(5, 0, 0, 50, 0));
        BucketTube f = Due.tube("pressure 9;");
        due("29 no holes, but flat: mend", 0, () -> f.best(60, 0, 0, 50, 0));
        due("29 no holes, but flat: mend", 375, () -> f.best(60, 0, 0, 50, 1));
        BucketTube t = Due.tube("pressure 20;hole 1 rim 1;leak 5000*4;holds minutes*20;");
        // 15 and 5 and 6 by 1 are 26, a walk 20; 15, 13 and 12: 40, a walk of 2 miles: 40.
        BucketTube u = Due.tube("pressure 20;hole 1 rim 1;leak 5000*4;holds (12<minutes)*99;");
        due("29 walk", 2, () -> t.best(1, 0, 0, 100, 0));
        due("29 like ones", 0, () -> u.best(2, 0, 0, 99, 0));
        due("29 like ones", 40, () -> u.best(2, 0, 0, 99, 1));
    }

    /** Promises 30 and 31. */
    private static void dark() {
        BucketTube x = Due.tube("try 10 1;try 1 5;try 3 3;");
        int[] want = {1, 2, 0, -1, -1};
        for (int i = 0; i < want.length; i++) {
            int at = i;
            due("30 dark " + i, want[i], () -> x.dark(at));
        }
        due("30 far", -1, () -> x.dark(Integer.MAX_VALUE));
        due("30 wrong", NSE, () -> x.dark(-1));
        due("31 together", 31, () -> x.mean(0));
        due("31 weights", 9, () -> x.mean(1));
        due("31 wrong", NSE, () -> x.mean(2));
        due("31 wrong", NSE, () -> x.mean(-1));
        BucketTube y = Due.tube("try 4 2;try 99 99;try 2 1;try 98 49;try 1 1;try 6 3;");
        int[] like = {1, 4, 0, 2, 3, 5};
        for (int i = 0; i < like.length; i++) {
            int at = i;
            due("30 like ones " + i, like[i], () -> y.dark(at));
        }
        due("31 together", 99 * 99 + 100 + 104 * 2 + 106 + 204 * 49 + 210 * 3, () -> y.mean(0));
        due("30 no tries", -1, () -> new BucketTube().dark(0));
        due("31 no tries", 0, () -> new BucketTube().mean(0));
    }

    /** Promises 32 and 33. */
    private static void tacks() {
        BucketTube x = Due.tube("rider 0 10 5 flat;rider 20 5 8 flat;rider 0 4 9 well;");
        due("32 how many", 36, () -> x.tacks(0));
        due("32 cell", 5, () -> x.tacks(1));
        due("32 hour", 0, () -> x.tacks(2));
        due("33 cell", 6, () -> x.cell(5));
        due("33 cell", 6, () -> x.cell(10));
        due("33 cell", 0, () -> x.cell(4));
        due("33 cell", 0, () -> x.cell(11));
        due("33 wrong", NSE, () -> x.cell(40));
        due("33 wrong", NSE, () -> x.cell(-1));
        due("32 wrong", NSE, () -> x.tacks(3));
        due("32 wrong", NSE, () -> x.tacks(-1));
        BucketTube y = Due.tube("rider 3 9 12 flat;rider 9 3 11 well;rider 30 39 0 well;");
        due("32 in that hour", 7, () -> y.tacks(0));
        due("32 first hour", 12, () -> y.tacks(2));
        due("33 one", 1, () -> y.cell(9));
        BucketTube z = Due.tube("rider 3 9 12 flat;rider 3 9 12 well;");
        due("32 none", 0, () -> z.tacks(0));
        due("32 none", -1, () -> z.tacks(1));
        due("32 none", -1, () -> z.tacks(2));
        due("32 no riders", 960, () -> new BucketTube().tacks(0));
        due("33 no riders", 24, () -> new BucketTube().cell(39));
        BucketTube w = Due.tube("rider 0 39 22 well;");
        due("32 behind it", 40, () -> w.tacks(0));
        due("32 the last hour", 23, () -> w.tacks(2));
    }

    /** Promise 34. */
    private static void thorn() {
        BucketTube x = Due.tube(SMALL);
        due("34 likeliest", 12, () -> x.thorn(5));
        due("34 one", 4166666660L, () -> x.weight(12));
        due("34 the other", 4166666660L, () -> x.weight(36));
        due("34 outer alone", 83333333, () -> x.weight(13));
        due("34 no other", 416666666, () -> x.weight(16));
        due("34 once", 0, () -> x.thorn(2));
        due("34 once", 4166666660L, () -> x.weight(0));
        due("34 once", 0, () -> x.thorn(8));
        due("34 once", 4166666660L, () -> x.weight(24));
        due("34 none", -1, () -> x.thorn(12));
        due("34 none", -1, () -> x.thorn(-1));
        due("34 status", 2, () -> x.count(20));
        due("34 acts", 3, () -> x.count(17));
        for (int i = 0; i < 9; i++) {
            x.thorn(5);
        }
        due("34 at most", 1000000000000000L, () -> x.weight(12));
        due("34 at most", 1000000000000000L, () -> x.weight(36));
        x.undo();
        x.undo();
        due("34 undone", 1000000000000000L, () -> x.weight(12));
        for (int i = 0; i < 3; i++) {
            x.undo();
        }
        due("34 undone", 416666666L * 100000, () -> x.weight(12));
    }

    /** Promise 35. */
    private static void quarter() {
        BucketTube x = Due.tube("tube 13;cause valve 0;cause thorn 13;cause kerb 0;cause spoke 0;");
        due("35 four inches", 0, x::quarter);
        x.listen(0, 60);
        due("35 of like ones the least", 1, x::quarter);
        x.thorn(9);
        x.thorn(9);
        // Inches 9 and 4: quarters 2 and 1, like ones again.
        due("35 like", 1, x::quarter);
        x.listen(1, 1);
        due("35 most", 2, x::quarter);
        BucketTube y = Due.tube("");
        due("35 valve", 0, y::quarter);
        y.dip(0, 5);
        due("35 others", 1, y::quarter);
    }

    /** Promise 36. */
    private static void sweep() {
        BucketTube x = Due.tube("tube 13;hand 3;hole 1 left 1;miss 1;");
        due("36 at once", 1, () -> x.sweep(5, false, 1, 0));
        due("36 at once", 0, () -> x.sweep(5, false, 1, 1));
        BucketTube y = Due.tube("tube 13;hand 3;hole 7 left 1;hole 6 left 1;miss 1;");
        due("36 third", 5, () -> y.sweep(5, false, 2, 0));
        due("36 of like ones the least", 0, () -> y.sweep(5, false, 2, 1));
        due("36 sixty", 121, () -> y.sweep(5, false, 60, 0));
        BucketTube z = Due.tube("tube 13;hand 3;hole 12 left 1;hole 0 left 1 slow;miss 1;");
        due("36 the last one, round", 13, () -> z.sweep(5, false, 3, 0));
        due("36 slow", 1, () -> z.sweep(5, true, 3, 1));
        z.patch(0, 60, 0, 0, 1);
        due("36 none", -1, () -> z.sweep(5, false, 3, 0));
        due("36 none", -1, () -> z.sweep(5, false, 3, 1));
        due("36 wrong", NSE, () -> z.sweep(5, false, 61, 2));
        due("36 wrong", NSE, () -> z.sweep(5, false, 1, -1));
        due("36 each", IAE, () -> z.sweep(5, false, 61, 0));
        due("36 each", IAE, () -> z.sweep(5, false, 0, 0));
        BucketTube w = Due.tube("tube 84;hand 1;hole 10 left 1;miss 1;");
        due("36 600 are not enough", -1, () -> w.sweep(5, false, 60, 0));
        BucketTube v = Due.tube("tube 84;hand 1;hole 9 left 1;miss 1;");
        due("36 600 are enough", 541, () -> v.sweep(5, false, 60, 0));
        // Seed 5 draws 55: the first SECOND shows nothing, and it goes on behind the last INCH.
        BucketTube u = Due.tube("tube 12;hand 9;hole 8 left 1;miss 56;");
        int seed = 5;
        int drawn;
        int draws = 0;
        do {
            seed = seed * 1103515245 + 12345;
            drawn = (seed >>> 16 & 32767) % 100;
            draws++;
        } while (drawn < 56);
        int seconds = draws;
        // One SECOND each: DIPS at 0 and 9 by turns, INCH 8 is looked at from 0 alone.
        int want = 2 * seconds - 1;
        due("36 by turns", want, () -> u.sweep(5, false, 1, 0));
        // Twelve INCHES by six: DIPS at 0 and 6, then 0 again.
        BucketTube t = Due.tube("tube 12;hand 6;hole 7 left 1;miss 56;");
        due("36 by turns", 2 * seconds, () -> t.sweep(5, false, 1, 0));
        BucketTube s = Due.tube("tube 12;hand 6;hole 7 left 1;miss 99;");
        due("36 the 600th", 600, () -> s.sweep(seedShownAt(300), false, 1, 0));
        due("36 not the 602nd", -1, () -> s.sweep(seedShownAt(301), false, 1, 0));
    }

    /** Promise 37. */
    private static void seeks() {
        BucketTube x = Due.tube("tube 30;hole 7 left 9;hole 8 right 14;miss 70;");
        int[] sums = new int[3];
        for (int i = 0; i < 30; i++) {
            int s = x.seek(Integer.MAX_VALUE - 3 + i, false, 0);
            sums[0] += s > 0 ? 1 : 0;
            sums[1] += Math.max(s, 0);
            sums[2] = Math.max(s, sums[2]);
        }
        for (int w = 0; w < 3; w++) {
            int what = w;
            due("37 seeks " + w, sums[w], () -> x.seeks(Integer.MAX_VALUE - 3, 30, false, what));
            due("37 none of them " + w, 0, () -> x.seeks(5, 0, false, what));
        }
        due("37 one", x.seek(5, false, 0), () -> x.seeks(5, 1, false, 1));
        due("37 wrong", NSE, () -> x.seeks(5, 31, false, 3));
        due("37 wrong", NSE, () -> x.seeks(5, 1, false, -1));
        due("37 many", IAE, () -> x.seeks(5, 31, false, 0));
        due("37 many", IAE, () -> x.seeks(5, -1, false, 0));
        BucketTube y = Due.tube("hole 7 left 9 slow;");
        for (int w = 0; w < 3; w++) {
            int what = w;
            due("37 none found " + w, 0, () -> y.seeks(5, 30, false, what));
        }
        due("37 under load", 30, () -> y.seeks(5, 30, true, 0));
    }

    /** Promise 38. */
    private static void enough() {
        BucketTube x = Due.tube(SMALL);
        due("38 cut down first", 1, () -> x.enough(1000));
        due("38 wrong", IAE, () -> x.enough(1001));
        due("38 wrong", IAE, () -> x.enough(-1));
        due("38 to nothing", 1, () -> one(x.enough(0) > 100));
        BucketTube y = Due.tube("hand 2;miss 50;cause thorn 0;cause kerb 0;cause spoke 0;cause valve 1;");
        due("38 as they are", 0, () -> y.enough(1000));
        due("38 just below", 1, () -> y.enough(999));
        due("38 half", 1, () -> y.enough(500));
        due("38 below half", 2, () -> y.enough(499));
        due("38 nothing", 30, () -> y.enough(0));
        y.dip(0, 1);
        due("38 what they are now", 1, () -> y.enough(500));
        BucketTube z = Due.tube("hand 1;miss 99;");
        due("38 none", -1, () -> z.enough(100));
        // Fifty SECONDS at each of twelve INCHES: 0.95 to the power of 50 is 0.0769.
        BucketTube w = Due.tube("tube 12;hand 1;miss 95;cause valve 0;");
        due("38 the 600th", 600, () -> w.enough(77));
        due("38 none", -1, () -> w.enough(76));
        due("38 what one believes stays", 0, () -> z.count(17));
    }

    /** Promises 39 and 40. */
    private static void ofInchAndSide() {
        BucketTube x = Due.tube(SMALL);
        due("39 inch 0", 185, () -> x.ofInch(0));
        due("39 inch 3", 74, () -> x.ofInch(3));
        due("39 wrong", NSE, () -> x.ofInch(12));
        due("39 wrong", NSE, () -> x.ofInch(-1));
        int[] want = {555, 111, 111, 222};
        for (int i = 0; i < 4; i++) {
            int side = i;
            due("40 side " + i, want[i], () -> x.ofSide(side));
        }
        due("40 wrong", NSE, () -> x.ofSide(4));
        due("40 wrong", NSE, () -> x.ofSide(-1));
        // Thorns all round: a side's WEIGHTS by 1000 are more than a long holds.
        for (int t = 0; t < 12; t++) {
            for (int k = 0; k < 8; k++) {
                x.thorn(t);
            }
        }
        due("40 a whole side", 999, () -> x.ofSide(0));
        due("39 of it", 83, () -> x.ofInch(5));
        due("40 the others", 0, () -> x.ofSide(1));
        due("15 of it", 83, () -> x.odds(20));
    }

    /** Promise 41. */
    private static void flatIf() {
        BucketTube x = Due.tube("pressure 20;hole 1 rim 1;hole 2 rim 2 slow;leak size*1000*(1+load);");
        due("41 none", -1, () -> x.flatIf(0, true));
        due("41 first", 11, () -> x.flatIf(1, false));
        due("41 slow", 6, () -> x.flatIf(2, false));
        due("41 under load", 3, () -> x.flatIf(2, true));
        due("41 both", 4, () -> x.flatIf(3, false));
        due("41 no such hole", IAE, () -> x.flatIf(4, false));
        due("41 no such hole", IAE, () -> x.flatIf(-1, false));
        due("41 no such hole", IAE, () -> x.flatIf(Integer.MIN_VALUE, false));
        x.patch(0, 60, 0, 0, 1);
        due("41 mended", 11, () -> x.flatIf(1, false));
        x.minutes(6, true);
        due("41 it is", 0, () -> x.flatIf(0, false));
        due("41 no holes", -1, () -> new BucketTube().flatIf(0, false));
        due("41 no holes", IAE, () -> new BucketTube().flatIf(1, false));
        BucketTube y = Due.tube("hole 0 rim 1;hole 1 rim 1;hole 2 rim 1;hole 3 rim 1;hole 4 rim 1;hole 5 rim 24;");
        due("41 six", 1, () -> one(y.flatIf(63, false) > 0));
        due("41 seven", IAE, () -> y.flatIf(64, false));
    }

    /** Promise 42. */
    private static void which() {
        BucketTube x = Due.tube("pressure 10;hole 1 rim 1;hole 2 rim 2 slow;hole 3 rim 3;hole 4 rim 24;leak size*100;");
        due("42 nothing", 1, () -> x.which(0, false, 0));
        due("42 nothing", 0, () -> x.which(0, false, 1));
        due("42 two ways", 2, () -> x.which(300, false, 0));
        due("42 the least", 3, () -> x.which(300, false, 1));
        due("42 all", 15, () -> x.which(3000, true, 1));
        due("42 none", 0, () -> x.which(700, false, 0));
        due("42 none", -1, () -> x.which(700, false, 1));
        due("42 none", 0, () -> x.which(-1, false, 0));
        due("42 wrong", NSE, () -> x.which(0, false, 2));
        due("42 wrong", NSE, () -> x.which(0, false, -1));
        x.patch(0, 60, 0, 0, 1);
        due("42 mended or not", 2, () -> x.which(300, false, 0));
        BucketTube y = Due.tube("pressure 20;hole 1 rim 1;hole 2 rim 2;leak 9999*4*size;");
        due("42 no more than there is", 3, () -> y.which(20000, false, 0));
        due("42 no more than there is", 0, () -> y.which(39996, false, 0));
        due("42 no holes", 1, () -> new BucketTube().which(0, true, 0));
    }

    /** Promise 43. */
    private static void rides() {
        BucketTube x = Due.tube("pressure 16;hole 1 rim 1 slow;leak 1000;");
        due("43 six are no flat", 100, () -> x.rides(1));
        due("43 twelve are", 0, () -> x.rides(2));
        due("43 miles", IAE, () -> x.rides(0));
        due("43 miles", IAE, () -> x.rides(61));
        due("43 no holes", 100, () -> new BucketTube().rides(60));
        due("43 too little", 0, () -> Due.tube("pressure 9;").rides(1));
        BucketTube y = Due.tube("pressure 16;hole 1 rim 1;leak 1000+(20<minute);");
        due("43 minute goes on", 3, () -> y.rides(1));
        y.minutes(5, true);
        due("43 from now on", 2, () -> y.rides(1));
        due("43 pumped ahead", 11000, () -> y.count(15));
        BucketTube z = Due.tube("pressure 16;hole 1 rim 1;leak 1000+(600<minute);");
        due("43 a hundred", 100, () -> z.rides(1));
        BucketTube w = Due.tube("pressure 16;hole 1 rim 1;leak 1000+(598<minute);");
        due("43 ninety-nine", 99, () -> w.rides(1));
        w.patch(0, 60, 0, 0, 1);
        due("43 mended", 100, () -> w.rides(60));
    }

    /** Promises 44 and 45. */
    private static void imageAndRestore() {
        BucketTube x = Due.tube(SMALL);
        due("45 none", 0, () -> one(x.restore()));
        x.minutes(1, false);
        x.dip(0, 1);
        x.patch(0, 60, 0, 0, 1);
        x.image();
        x.minutes(1, true);
        x.undo();
        x.undo();
        x.undo();
        x.thorn(5);
        x.pump();
        x.dip(99, 1);
        x.plan(1);
        due("45 there is", 1, () -> one(x.restore()));
        due("45 pressure", 49500, () -> x.count(15));
        due("45 minutes", 1, () -> x.count(16));
        due("45 weights", 541666666, () -> x.weight(3));
        due("45 weights", 416666666, () -> x.weight(12));
        due("45 mended", 1, () -> x.hole(0, 4));
        due("45 acts", 3, () -> x.count(17));
        due("45 status stays", 1, () -> x.count(20));
        due("45 plan stays", 1, () -> x.planned(3) + x.planned(7) + x.planned(1) + x.planned(8) + x.planned(2) + x.planned(0)
                + x.planned(9) + x.planned(10));
        due("45 next by it", 10, () -> x.next(1));
        due("45 undone", 2, x::undo);
        due("45 undone", 0, () -> x.hole(0, 4));
        due("45 undone", 1, x::undo);
        due("45 undone", 1083333333, () -> x.weight(3));
        due("45 once more", 1, () -> one(x.restore()));
        due("45 once more", 3, () -> x.count(17));
        x.undo();
        x.image();
        x.pump();
        due("44 in place of another", 1, () -> one(x.restore()));
        due("44 in place of another", 2, () -> x.count(17));
        due("44 no act", 0, () -> x.hole(0, 4));
        BucketTube y = Due.tube("");
        for (int i = 0; i < 45; i++) {
            y.minutes(1, false);
        }
        y.image();
        for (int i = 0; i < 45; i++) {
            y.pump();
        }
        y.restore();
        due("45 forty", 40, () -> y.count(17));
        while (y.undo() > 0) {
            Due.due("45 acts", 0, 0);
        }
        due("45 the acts of then", 5, () -> y.count(16));
    }
}
