/** The document's draws, reckoned apart from the class, to know ahead what a drift will do. */
final class Seeds {
    private static final long TWO_TO_THE_31 = 2147483648L;
    private static final int FAR = 1000000;

    private Seeds() {
    }

    static long next(long seed) {
        return (seed * 1103515245L + 12345L) % TWO_TO_THE_31;
    }

    /** What the seed is behind so many draws. */
    static int behind(long seed, int draws) {
        long then = seed;
        for (int i = 0; i < draws; i++) {
            then = next(then);
        }
        return (int) then;
    }

    /** The least seed whose first draws are these, told in pairs: a draw of how many, and what it is. */
    static int drawing(int... pairs) {
        for (int seed = 0; seed < FAR; seed++) {
            if (draws(seed, pairs)) {
                return seed;
            }
        }
        throw new AssertionError("no seed below " + FAR + " draws so");
    }

    private static boolean draws(long seed, int[] pairs) {
        long then = seed;
        for (int i = 0; i < pairs.length; i += 2) {
            then = next(then);
            if (then / 65536 % pairs[i] != pairs[i + 1]) {
                return false;
            }
        }
        return true;
    }

    /** How often 60 months by draws say something of man 0, there being one saying. */
    static int saidOfFirst(long seed, int men) {
        long then = seed;
        int said = 0;
        for (int month = 0; month < 60; month++) {
            then = next(then);
            long deed = then / 65536 % 5;
            then = next(then);
            long m = then / 65536 % men;
            if (deed == 2 || deed == 3) {
                then = next(then);
            }
            said += deed == 2 && m == 0 ? 1 : 0;
        }
        return said;
    }

    /** Of many seeds the one by which 60 months say most of man 0. */
    static int sayingMostOfFirst(int men) {
        int best = 0;
        for (int seed = 0; seed < 50000; seed++) {
            best = saidOfFirst(seed, men) > saidOfFirst(best, men) ? seed : best;
        }
        return best;
    }
}
