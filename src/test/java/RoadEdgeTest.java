/** Terms, parts 4 to 6: bounds of the tyre, of WHAT IT WAS, of TRIES, of TACKS, of ACTS, the image, and STATUS. */
public final class RoadEdgeTest {
    private RoadEdgeTest() {
    }

    public static void main(String[] args) {
        feelsRound();
        fits();
        causes();
        causesCutDown();
        causesOfLikeOnes();
        darkOrders();
        darkOfLikeOnes();
        darkEnds();
        ways();
        hours();
        firstThatFits();
        fortyActs();
        undoneInOrder();
        imageAndActs();
        status();
        countEnds();
        Due.end();
    }

    private static void due(String what, long want, long got) {
        Due.due(what, want, got);
    }

    /** MARK and an INCH, MARK less it, round: 100 by the lesser one and the greater one. */
    private static void feelsRound() {
        for (int inches : new int[] {12, 13, 84}) {
            for (int mark : new int[] {0, 1, inches / 2, inches - 1}) {
                BucketTube x = Due.tube("tube " + inches + ";mark " + mark + ";");
                for (int inch = 0; inch < inches; inch++) {
                    int and = mark + inch >= inches ? mark + inch - inches : mark + inch;
                    int less = mark - inch < 0 ? mark - inch + inches : mark - inch;
                    due("feel " + inch + " of " + inches + " by " + mark, and < less ? 100 * and + less : 100 * less + and,
                            x.feel(inch));
                }
                Due.due("no INCH", Due.NSE, () -> x.feel(inches));
                Due.due("no INCH", Due.NSE, () -> x.feel(-1));
            }
        }
        BucketTube x = Due.tube("tube 12;mark 7;");
        due("just round to 0", 2, x.feel(5));
        due("one less", 311, x.feel(4));
        due("both be one", 707, x.feel(0));
        due("both be one, across", 101, x.feel(6));
    }

    private static void fits() {
        BucketTube x = Due.tube("tube 12;mark 7;hole 0 rim 1;hole 5 rim 2;hole 7 left 3 slow;hole 6 rim 4;hole 11 rim 5;"
                + "hole 1 outer 6;");
        // 7; 0 and 2; 2 and 0; 1; 6 and 8; 8 and 6.
        int[] want = {6, 8, 6, 0, 0, 0, 48, 1, 48, 0, 0, 0};
        for (int inch = 0; inch < 12; inch++) {
            due("fits " + inch, want[inch], x.fits(inch));
        }
        x.patch(5, 60, 0, 0, 1);
        due("MENDED or not", 48, x.fits(8));
        Due.due("no INCH", Due.NSE, () -> x.fits(12));
        Due.due("no INCH", Due.NSE, () -> x.fits(-1));
        due("no HOLES", 0, new BucketTube().fits(0));
    }

    private static void causes() {
        // By 1000000 and cut down: a spoke's 1 by 12 is 83333, a valve's 1 is 1000000.
        BucketTube x = Due.tube("tube 12;hole 0 rim 1;hole 1 rim 1;hole 11 rim 1;hole 0 outer 1;hole 0 left 1;hole 0 right 1;");
        int[][] want = {{0, 0, 76, 923}, {0, 0, 1000, 0}, {0, 0, 1000, 0}, {1000, 0, 0, 0}, {0, 1000, 0, 0}, {0, 1000, 0, 0}};
        int[] likeliest = {3, 2, 2, 0, 1, 1};
        for (int hole = 0; hole < 6; hole++) {
            for (int cause = 0; cause < 4; cause++) {
                due("HOLE " + hole + " by " + cause, want[hole][cause], x.cause(hole, cause));
            }
            due("HOLE " + hole, likeliest[hole], x.cause(hole, -1));
        }
        BucketTube y = Due.tube("tube 84;hole 0 rim 1;cause spoke 99;cause valve 1;");
        long spoke = 99 * 1000000L / 84;
        due("spoke", spoke * 1000 / (spoke + 1000000), y.cause(0, 2));
        due("valve", 1000000L * 1000 / (spoke + 1000000), y.cause(0, 3));
        due("likeliest", 2, y.cause(0, -1));
    }

    /** By 1000000: of 16 INCHES each one's part is whole, and 200 of 1000 are just so many. */
    private static void causesCutDown() {
        BucketTube just = Due.tube("tube 16;hole 0 rim 1;cause spoke 4;cause valve 1;");
        due("250000 of 1250000", 200, just.cause(0, 2));
        due("1000000 of 1250000", 800, just.cause(0, 3));
        // 4000000 by 17 is 235294 and a bit.
        BucketTube below = Due.tube("tube 17;hole 0 rim 1;cause spoke 4;cause valve 1;");
        due("235294 of 1235294", 190, below.cause(0, 2));
        due("1000000 of 1235294", 809, below.cause(0, 3));
    }

    /** Of like ones the least; none, if all are 0. */
    private static void causesOfLikeOnes() {
        BucketTube like = Due.tube("tube 12;hole 0 rim 1;cause spoke 12;cause valve 1;");
        due("like ones", 2, like.cause(0, -1));
        due("500", 500, like.cause(0, 2));
        due("500", 500, like.cause(0, 3));
        BucketTube less = Due.tube("tube 13;hole 0 rim 1;cause spoke 12;cause valve 1;");
        due("less", 3, less.cause(0, -1));
        BucketTube more = Due.tube("tube 12;hole 0 rim 1;cause spoke 13;cause valve 1;");
        due("more", 2, more.cause(0, -1));
        BucketTube none = Due.tube("hole 0 rim 1;hole 1 rim 1;hole 1 outer 1;hole 1 left 1;hole 2 left 1;"
                + "cause thorn 0;cause kerb 0;cause spoke 0;cause valve 1;");
        due("the valve alone", 3, none.cause(0, -1));
        due("the valve alone", 1000, none.cause(0, 3));
        due("the valve alone", 0, none.cause(0, 2));
        for (int hole = 1; hole < 5; hole++) {
            due("none", -1, none.cause(hole, -1));
            for (int cause = 0; cause < 4; cause++) {
                due("0, if all are 0", 0, none.cause(hole, cause));
            }
        }
    }

    /** The least of what all orders of TRIES take together. */
    private static void orders(int[] costs, int[] weights) {
        StringBuilder text = new StringBuilder();
        for (int i = 0; i < costs.length; i++) {
            text.append("try ").append(costs[i]).append(' ').append(weights[i]).append(';');
        }
        int[] best = new int[costs.length];
        int[] row = new int[costs.length];
        long least = least(costs, weights, row, 0, best, Long.MAX_VALUE);
        Due.due(text + " together, asked first", costs.length == 0 ? 0 : least, Due.tube(text.toString()).mean(0));
        BucketTube x = Due.tube(text.toString());
        int all = 0;
        for (int i = 0; i < costs.length; i++) {
            due(text + " dark " + i, best[i], x.dark(i));
            all += weights[i];
        }
        due(text + " none behind", -1, x.dark(costs.length));
        due(text + " together", costs.length == 0 ? 0 : least, x.mean(0));
        due(text + " all WEIGHTS", all, x.mean(1));
    }

    private static long least(int[] costs, int[] weights, int[] row, int at, int[] best, long least) {
        if (at == row.length) {
            long spent = 0;
            long together = 0;
            for (int chosen : row) {
                spent += costs[chosen];
                together += spent * weights[chosen];
            }
            if (together < least) {
                System.arraycopy(row, 0, best, 0, row.length);
                return together;
            }
            return least;
        }
        long now = least;
        for (int i = 0; i < row.length; i++) {
            boolean used = false;
            for (int k = 0; k < at; k++) {
                used |= row[k] == i;
            }
            if (!used) {
                row[at] = i;
                now = least(costs, weights, row, at + 1, best, now);
            }
        }
        return now;
    }

    private static void darkOrders() {
        orders(new int[] {}, new int[] {});
        orders(new int[] {99}, new int[] {1});
        orders(new int[] {1}, new int[] {99});
        orders(new int[] {1, 99}, new int[] {99, 1});
        orders(new int[] {99, 1}, new int[] {1, 99});
        orders(new int[] {50, 49}, new int[] {51, 50});
        orders(new int[] {49, 50}, new int[] {50, 51});
        orders(new int[] {98, 97}, new int[] {99, 98});
        orders(new int[] {99, 98, 97, 96, 95, 94}, new int[] {1, 2, 3, 4, 5, 6});
        orders(new int[] {94, 95, 96, 97, 98, 99}, new int[] {94, 95, 96, 97, 98, 99});
        orders(new int[] {99, 99, 99, 99, 99, 99}, new int[] {99, 99, 99, 99, 99, 99});
        orders(new int[] {12, 4, 9, 2, 7, 5}, new int[] {3, 4, 1, 2, 8, 5});
    }

    private static void darkOfLikeOnes() {
        orders(new int[] {4, 2, 6, 8}, new int[] {2, 1, 3, 4});
        orders(new int[] {2, 4, 1, 3, 1, 6}, new int[] {1, 2, 1, 3, 1, 3});
        orders(new int[] {1, 1}, new int[] {1, 1});
        orders(new int[] {99, 33}, new int[] {33, 11});
        orders(new int[] {33, 99}, new int[] {11, 33});
    }

    private static void darkEnds() {
        BucketTube x = Due.tube("try 1 1;try 1 1;try 1 1;try 1 1;try 1 1;try 1 1;");
        due("the first", 0, x.dark(0));
        due("the last", 5, x.dark(5));
        due("none", -1, x.dark(6));
        due("none", -1, x.dark(7));
        due("none", -1, x.dark(Integer.MAX_VALUE));
        Due.due("below 0", Due.NSE, () -> x.dark(-1));
        due("without TRIES", -1, new BucketTube().dark(0));
        Due.due("without TRIES", Due.NSE, () -> new BucketTube().dark(-1));
        due("without TRIES", 0, new BucketTube().mean(0));
        due("without TRIES", 0, new BucketTube().mean(1));
    }

    /** All CELLS of a way, its ends too, either way round. */
    private static void ways() {
        int[][] ways = {{0, 0}, {39, 39}, {0, 39}, {39, 0}, {5, 9}, {9, 5}, {38, 39}, {1, 0}};
        for (int[] way : ways) {
            int low = Math.min(way[0], way[1]);
            int high = Math.max(way[0], way[1]);
            BucketTube flat = Due.tube("rider " + way[0] + " " + way[1] + " 23 flat;");
            BucketTube well = Due.tube("rider " + way[0] + " " + way[1] + " 23 well;");
            for (int cell = 0; cell < 40; cell++) {
                boolean over = cell >= low && cell <= high;
                due("flat, CELL " + cell, over ? 24 : 0, flat.cell(cell));
                due("well, CELL " + cell, over ? 0 : 24, well.cell(cell));
            }
            due("flat", 24 * (high - low + 1), flat.tacks(0));
            due("well", 24 * (40 - (high - low + 1)), well.tacks(0));
            due("first of flat", low, flat.tacks(1));
            Due.due("no CELL", Due.NSE, () -> flat.cell(40));
            Due.due("no CELL", Due.NSE, () -> flat.cell(-1));
        }
        due("without RIDERS", 960, new BucketTube().tacks(0));
        due("without RIDERS", 24, new BucketTube().cell(0));
        due("without RIDERS", 0, new BucketTube().tacks(2));
    }

    /** In that HOUR or later. */
    private static void hours() {
        for (int hour = 0; hour < 24; hour++) {
            BucketTube flat = Due.tube("rider 7 7 " + hour + " flat;");
            BucketTube well = Due.tube("rider 0 39 " + hour + " well;");
            due("by then they lay", hour + 1, flat.cell(7));
            due("the first HOUR", 0, flat.tacks(2));
            due("they lay behind it", 23 - hour, well.cell(7));
            due("the first HOUR behind", hour < 23 ? hour + 1 : -1, well.tacks(2));
            due("the first CELL", hour < 23 ? 0 : -1, well.tacks(1));
            due("how many", 40 * (23 - hour), well.tacks(0));
        }
        BucketTube one = Due.tube("rider 7 8 12 flat;rider 8 7 11 well;");
        due("just from 12 on", 2, one.tacks(0));
        due("just from 12 on", 12, one.tacks(2));
        BucketTube none = Due.tube("rider 7 8 12 flat;rider 8 7 12 well;");
        due("none", 0, none.tacks(0));
        due("none", -1, none.tacks(1));
        due("none", -1, none.tacks(2));
        due("none of a CELL", 0, none.cell(7));
        BucketTube apart = Due.tube("rider 0 6 12 flat;rider 7 39 12 flat;");
        due("one CELL is not on both ways", 0, apart.tacks(0));
        BucketTube meet = Due.tube("rider 0 7 12 flat;rider 39 7 12 flat;");
        due("the one on both", 13, meet.tacks(0));
        due("the one on both", 7, meet.tacks(1));
    }

    /** The first CELL that fits some HOUR, and its first HOUR: another CELL may have an earlier one. */
    private static void firstThatFits() {
        BucketTube x = Due.tube("rider 3 9 12 flat;rider 3 5 8 well;");
        due("CELL", 3, x.tacks(1));
        due("its HOUR", 9, x.tacks(2));
        due("how many of 3", 4, x.cell(3));
        due("how many of 6", 13, x.cell(6));
        BucketTube last = Due.tube("rider 39 39 23 flat;rider 0 39 22 well;");
        due("the last CELL", 39, last.tacks(1));
        due("the last HOUR", 23, last.tacks(2));
        due("one", 1, last.tacks(0));
        BucketTube first = Due.tube("rider 0 0 0 flat;rider 1 39 23 well;");
        due("the first CELL", 0, first.tacks(1));
        due("the first HOUR", 0, first.tacks(2));
        due("one", 1, first.tacks(0));
    }

    /** At most 40 ACTS are kept, the latest ones. */
    private static void fortyActs() {
        for (int many : new int[] {1, 39, 40, 41, 79, 81}) {
            BucketTube x = Due.tube("hole 1 rim 1;leak 1;");
            for (int i = 1; i <= many; i++) {
                x.minutes(1, false);
                due("kept", Math.min(i, 40), x.count(17));
            }
            int kept = Math.min(many, 40);
            for (int left = kept - 1; left >= 0; left--) {
                due("left", left, x.undo());
                due("kept", left, x.count(17));
                due("MINUTES", many - kept + left, x.count(16));
            }
            due("none", -1, x.undo());
            due("the first ones stay", many - kept, x.count(16));
            due("THE PRESSURE of then", 60000 - (many - kept), x.count(15));
            x.pump();
            due("one more", 1, x.count(17));
            due("it alone", 0, x.undo());
            due("none", -1, x.undo());
        }
    }

    private static void undoneInOrder() {
        BucketTube x = Due.tube("tube 12;hand 1;miss 50;noise 50;hole 1 rim 1;leak 5;cause thorn 12;");
        long thorn = 1000000000L;
        x.dip(3, 1);
        x.thorn(3);
        x.listen(1, 1);
        x.thorn(4);
        due("all of them", thorn / 2 * 10 / 2, x.weight(12));
        due("the fourth", 10 * thorn / 2, x.weight(16));
        x.pump();
        x.minutes(2, false);
        x.patch(0, 60, 0, 0, 1);
        x.patch(0, 0, 0, 0, 1);
        due("leaks", 0, x.hole(0, 4));
        due("undone", 7, x.undo());
        due("mended", 1, x.hole(0, 4));
        due("undone", 6, x.undo());
        due("leaks", 0, x.hole(0, 4));
        due("behind MINUTES", 59990, x.count(15));
        due("undone", 5, x.undo());
        due("ahead of MINUTES", 60000, x.count(15));
        due("undone", 4, x.undo());
        due("undone", 3, x.undo());
        due("no second THORN", thorn / 2, x.weight(16));
        due("no LISTENING undone yet", thorn / 2 * 10 / 2, x.weight(12));
        due("undone", 2, x.undo());
        due("no LISTENING", thorn / 2 * 10, x.weight(12));
        due("no LISTENING", thorn, x.weight(16));
        due("undone", 1, x.undo());
        due("no THORN", thorn / 2, x.weight(12));
        due("undone", 0, x.undo());
        due("no DIP", thorn, x.weight(12));
        due("none", -1, x.undo());
        // What cutting down took comes back as it was.
        BucketTube y = Due.tube("tube 12;hand 1;miss 1;hole 1 rim 1;");
        y.dip(0, 600);
        due("nothing", 0, y.weight(0));
        y.undo();
        due("all of it", 416666666, y.weight(0));
        y.thorn(0);
        y.undo();
        due("as it was", 416666666, y.weight(0));
    }

    private static void imageAndActs() {
        BucketTube x = Due.tube("hole 1 rim 1;leak 1;");
        due("there is none", 0, x.restore() ? 1 : 0);
        x.image();
        x.minutes(5, false);
        due("of a new one", 1, x.restore() ? 1 : 0);
        due("no MINUTES", 0, x.count(16));
        due("no ACTS", 0, x.count(17));
        due("none to undo", -1, x.undo());
        for (int i = 0; i < 41; i++) {
            x.minutes(1, false);
        }
        x.image();
        for (int i = 0; i < 40; i++) {
            x.undo();
        }
        due("one is left that was not kept", 1, x.count(16));
        x.pump();
        due("there is", 1, x.restore() ? 1 : 0);
        due("41 MINUTES", 41, x.count(16));
        due("40 ACTS", 40, x.count(17));
        due("39 are left", 39, x.undo());
        due("40 MINUTES", 40, x.count(16));
        due("as often as one likes", 1, x.restore() ? 1 : 0);
        due("41 MINUTES", 41, x.count(16));
        for (int left = 39; left >= 0; left--) {
            due("left", left, x.undo());
        }
        due("none", -1, x.undo());
        due("no more than 40", 1, x.count(16));
        x.image();
        x.restore();
        due("in place of the other one", 1, x.count(16));
        due("in place of the other one", 0, x.count(17));
        x.dip(60, 1);
        x.restore();
        due("STATUS stays", 1, x.count(20));
        Due.shed(x, "frog;");
        due("a FAULT leaves it", 1, x.restore() ? 1 : 0);
        due("STATUS stays", 1, x.count(19));
        Due.shed(x, "");
        due("a SHED takes it", 0, x.restore() ? 1 : 0);
        due("STATUS stays", 1, x.count(19));
        due("STATUS stays", 1, x.count(20));
    }

    /** STATUS 0: TEXTS with a FAULT; 1: ACTS; nothing else is counted. */
    private static void status() {
        BucketTube x = Due.tube("tube 12;hole 1 rim 1;");
        int texts = 0;
        for (String text : new String[] {"frog;", "hand 0;", "leak x;", "hand 3;hand 3;", "hole 1 rim 1;hole 1 rim 1;",
            "cause thorn 0;cause kerb 0;cause spoke 0;cause valve 0;"}) {
            Due.shed(x, text);
            texts++;
            due("TEXTS", texts, x.count(19));
        }
        Due.due("a tape that hasn't so many", Due.IAE, () -> x.shed(1));
        due("TEXTS", texts, x.count(19));
        int acts = 0;
        int[][] wrong = {{12, 1}, {-1, 1}, {0, 0}, {0, 601}};
        for (int[] w : wrong) {
            due("no DIP", -1, x.dip(w[0], w[1]));
            due("no LISTENING", -1, x.listen(w[0] == 12 ? 4 : w[0], w[1]));
            acts += 2;
            due("ACTS", acts, x.count(20));
        }
        due("no MINUTES", -1, x.minutes(0, true));
        due("no MINUTES", -1, x.minutes(601, true));
        due("no THORN", -1, x.thorn(12));
        due("no THORN", -1, x.thorn(-1));
        acts += 4;
        due("ACTS", acts, x.count(20));
        due("undo of none", -1, x.undo());
        due("restore of none", 0, x.restore() ? 1 : 0);
        Due.due("a patch that throws", Due.NSE, () -> x.patch(1, 0, 0, 0, 0) ? 1 : 0);
        Due.due("a patch that throws", Due.IAE, () -> x.patch(0, 61, 0, 0, 0) ? 1 : 0);
        x.patch(0, 0, 0, 0, 0);
        x.undo();
        Due.due("no PLAN", Due.IAE, () -> x.plan(601));
        for (int i = 0; i < 36; i++) {
            x.feed(0, 0, 0, 0, 0);
        }
        due("ACTS", acts, x.count(20));
        due("TEXTS", texts, x.count(19));
        Due.due("a SHED", 0, Due.shed(new BucketTube(), ""));
        due("700 bytes of 0", 1, x.shed(700));
        due("TEXTS", texts + 1, x.count(19));
        due("a SHED", 0, Due.shed(x, ""));
        due("ACTS stay", acts, x.count(20));
        due("TEXTS stay", texts + 1, x.count(19));
    }

    private static void countEnds() {
        BucketTube x = new BucketTube();
        due("the first", 48, x.count(0));
        due("the last", 0, x.count(20));
        Due.due("beside it", Due.NSE, () -> x.count(21));
        Due.due("beside it", Due.NSE, () -> x.count(-1));
        BucketTube y = Due.tube("hole 1 rim 1;");
        due("the first", 1, y.hole(0, 0));
        due("the last", 0, y.hole(0, 4));
        Due.due("beside it", Due.NSE, () -> y.hole(0, 5));
        Due.due("beside it", Due.NSE, () -> y.hole(0, -1));
        Due.due("no such HOLE", Due.NSE, () -> y.hole(1, 0));
        Due.due("no such HOLE", Due.NSE, () -> y.hole(-1, 0));
    }
}
