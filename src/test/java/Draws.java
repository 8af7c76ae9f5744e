/** The document's DRAWS, told bit by bit, and seeds that draw what a test needs. */
final class Draws {
    private Draws() {
    }

    /** A seed becomes itself times 1103515245 and 12345, as an int that wraps. */
    static int grown(int seed) {
        long wide = seed * 1103515245L + 12345;
        long low = Math.floorMod(wide, 1L << 32);
        return (int) (low >= 1L << 31 ? low - (1L << 32) : low);
    }

    /** Bits 16 to 30 MOD 100, one by one. */
    static int ofHundred(int grown) {
        int draw = 0;
        for (int bit = 30; bit >= 16; bit--) {
            draw = 2 * draw + (grown >> bit & 1);
        }
        return draw % 100;
    }

    /** The first seed from 0 on whose first DRAWS are these; one below 0 or above 99 may be any. */
    static int seedOf(int... draws) {
        for (int first = 0; first < 100000000; first++) {
            int seed = first;
            int fit = 0;
            while (fit < draws.length) {
                seed = grown(seed);
                if (draws[fit] >= 0 && draws[fit] < 100 && ofHundred(seed) != draws[fit]) {
                    break;
                }
                fit++;
            }
            if (fit == draws.length) {
                return first;
            }
        }
        throw new IllegalStateException("no such seed");
    }

    /** The first seed from 0 on whose first DRAWS are MISS or more, or below it, as told. */
    static int seedShown(int miss, boolean... shown) {
        for (int first = 0; first < 100000000; first++) {
            int seed = grown(first);
            int fit = 0;
            while (fit < shown.length && ofHundred(seed) >= miss == shown[fit]) {
                seed = grown(seed);
                fit++;
            }
            if (fit == shown.length) {
                return first;
            }
        }
        throw new IllegalStateException("no such seed");
    }

    /** The first seed from 0 on whose DRAW of that number is the first one of 99. */
    static int shownAt(int number) {
        boolean[] shown = new boolean[number];
        shown[number - 1] = true;
        return seedShown(99, shown);
    }
}
