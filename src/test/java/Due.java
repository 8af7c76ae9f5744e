import java.nio.charset.StandardCharsets;
import java.util.NoSuchElementException;

/** What the tests share: a count of wrong answers, and a text put on a tape. */
final class Due {
    static final long NSE = Long.MIN_VALUE;
    static final long IAE = Long.MIN_VALUE + 1;

    private static int wrong = 0;
    private static int asked = 0;

    private Due() {
    }

    interface Call {
        long answer();
    }

    /** An answer, or NSE or IAE for a call that throws it; any other exception is wrong. */
    static void due(String what, long want, Call call) {
        long got;
        try {
            got = call.answer();
        } catch (NoSuchElementException e) {
            got = NSE;
        } catch (IllegalArgumentException e) {
            got = IAE;
        } catch (RuntimeException e) {
            asked++;
            wrong++;
            System.out.println(what + " threw " + e + ", due is " + told(want));
            return;
        }
        due(what, want, got);
    }

    static void due(String what, long want, long got) {
        asked++;
        if (got != want) {
            wrong++;
            System.out.println(what + " answered " + told(got) + ", due is " + told(want));
        }
    }

    private static String told(long answer) {
        return answer == NSE ? "NoSuchElementException" : answer == IAE ? "IllegalArgumentException" : "" + answer;
    }

    static int wrong() {
        return wrong;
    }

    static void end() {
        System.out.println(asked + " answers, " + wrong + " wrong");
        if (wrong != 0) {
            System.exit(1);
        }
    }

    static int[][] fives(String text) {
        byte[] bytes = text.getBytes(StandardCharsets.ISO_8859_1);
        int[][] rows = new int[(bytes.length + 19) / 20][5];
        for (int i = 0; i < rows.length * 20; i++) {
            int b = i < bytes.length ? bytes[i] & 255 : 32;
            rows[i / 20][i % 20 / 4] = rows[i / 20][i % 20 / 4] << 8 | b;
        }
        return rows;
    }

    static void feed(BucketTube x, String text) {
        for (int[] r : fives(text)) {
            x.feed(r[0], r[1], r[2], r[3], r[4]);
        }
    }

    static int shed(BucketTube x, String text) {
        feed(x, text);
        return x.shed(text.length());
    }

    static BucketTube tube(String text) {
        BucketTube x = new BucketTube();
        due("shed of " + text, 0, shed(x, text));
        return x;
    }
}
