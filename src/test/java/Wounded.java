/** Brings a man near 99999 wounds, in some 250 calls. */
final class Wounded {
    /** Saying 0 hurts man 0 (smoked, never thicker in place 2) by 60, whatever is done to him. */
    private static final String YARD = "t1 1;m1 0,0,0,0,0;m0 0,0,0,0,0;s2 60;";
    static final int EACH = 60;
    static final int NEAR = 99960;

    private Wounded() {
    }

    /** Man 0 has 99960 wounds: the next saying is too much for 99999. */
    static TannedMen near() {
        TannedMen x = Check.told(YARD);
        int seed = Seeds.sayingMostOfFirst(2);
        int said = Seeds.saidOfFirst(seed, 2);
        int drifts = NEAR / EACH / said;
        for (int i = 0; i < drifts; i++) {
            x.seed(seed);
            x.drift(60);
        }
        for (int i = drifts * said; i < NEAR / EACH; i++) {
            x.say(0, 0);
        }
        return x;
    }
}
