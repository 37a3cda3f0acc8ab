/** Counts answers that are not as due, prints them, and ends the test. */
final class Check {
    private final String name;
    private int asked;
    private int wrong;

    Check(String name) {
        this.name = name;
    }

    void due(String what, long got, long want) {
        asked++;
        if (got != want) {
            wrong++;
            System.out.println(name + ": " + what + " answered " + got + ", due is " + want);
        }
    }

    void holds(String what, boolean so) {
        due(what, so ? 1 : 0, 1);
    }

    void end() {
        if (wrong > 0 || asked == 0) {
            System.out.println(name + ": " + wrong + " of " + asked + " are not as due");
            System.exit(1);
        }
        System.out.println(name + ": all " + asked + " are as due");
    }

    /** A new object that was fed a text. */
    static TannedMen fed(String text) {
        TannedMen x = new TannedMen();
        feed(x, text);
        return x;
    }

    /** A new object whose yard is told by a text. */
    static TannedMen told(String text) {
        TannedMen x = fed(text);
        x.yard();
        return x;
    }

    static void feed(TannedMen x, String text) {
        for (int i = 0; i < text.length(); i++) {
            x.feed(text.charAt(i));
        }
    }

    /** All of section 2, the seed apart, and what can be undone, as a text. */
    static String seen(TannedMen x) {
        StringBuilder all = new StringBuilder();
        for (int what = 0; what <= 14; what++) {
            all.append(x.told(what)).append(' ');
        }
        int men = x.told(2);
        for (int m = 0; m < men; m++) {
            for (int what = 0; what <= 4; what++) {
                all.append(x.man(m, what)).append(' ');
            }
            for (int p = 0; p < 5; p++) {
                all.append(x.skin(m, p, 0)).append('/').append(x.skin(m, p, 1)).append(' ');
            }
        }
        return all.toString();
    }

    /** A refusal that leaves all that can be seen as it was. */
    interface Call {
        int on(TannedMen x);
    }

    void refused(String what, TannedMen x, Call call, int want) {
        String ahead = seen(x);
        due(what, call.on(x), want);
        holds(what + " changes nothing", ahead.equals(seen(x)));
    }

    /** Makes the same object again and again. */
    interface Making {
        TannedMen make();
    }

    /** A call that leaves all that any later call can tell as it is for a twin without that call. */
    void leavesAll(String what, Making making, Call call, int want) {
        TannedMen x = making.make();
        TannedMen twin = making.make();
        due(what, call.on(x), want);
        due(what + ": the latest fault", x.fault(), twin.fault());
        holds(what + " changes nothing at all", Probe.whole(x).equals(Probe.whole(twin)));
    }
}
