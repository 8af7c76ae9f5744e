/** The example of README.md answers what README.md says, or what the document makes of it. */
public final class ReadmeTest {
    private ReadmeTest() {
    }

    public static void main(String[] args) {
        BucketTube tube = new BucketTube();
        Due.due("feed", 20, tube.feed(0x686f6c65, 0x2035206f, 0x75746572, 0x2031303b, 0x20202020));
        Due.due("shed", 0, tube.shed(16));
        Due.due("fault", BucketTube.NONE, tube.fault());
        Due.due("leak", 600, tube.leak(false));
        Due.due("flat", minutesTillFlat(), tube.flat(false));
        // The valve makes dips at 46, 47 and 0 alike: 0 is the least of them.
        Due.due("next", 0, tube.next(1));
        // SIDE 0 of INCHES 0 to 2 was looked at, so that of INCH 3 is the likeliest.
        Due.due("dip", 12, tube.dip(0, 5));
        tube.image();
        // 9 MINUTES by 12 are more than 100: it holds by any seed.
        Due.due("patch", 1, tube.patch(0, 9, 20, 30, 7) ? 1 : 0);
        Due.due("nothing leaks", 0, tube.leak(true));
        Due.due("undo", 1, tube.undo());
        Due.due("it leaks again", 600, tube.leak(true));
        Due.due("restore", 1, tube.restore() ? 1 : 0);
        Due.due("acts", 1, tube.count(17));
        Due.end();
    }

    private static int minutesTillFlat() {
        int pressure = 60000;
        int minutes = 0;
        while (pressure >= 10000) {
            pressure -= 10 * (pressure / 1000);
            minutes++;
        }
        return minutes;
    }
}
