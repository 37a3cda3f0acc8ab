/** Promises 10 to 17: what is done, and undone. */
public final class DoneTest {
    private static final Check CHECK = new Check("DoneTest");
    private static final int[] FAR = {Integer.MIN_VALUE, -1, Integer.MAX_VALUE};

    public static void main(String[] args) {
        monthByKind();
        monthRefused();
        monthsFull();
        in();
        out();
        scrape();
        say();
        woundsAtMost();
        bark();
        drift();
        driftRefused();
        undoEach();
        undoSixteen();
        CHECK.end();
    }

    private static void skins(String what, TannedMen x, int m, int... due) {
        for (int p = 0; p < 5; p++) {
            CHECK.due(what + ", place " + p, x.skin(m, p, 1), due[p]);
        }
    }

    private static void monthByKind() {
        TannedMen x = Check.told("t3 5;m0 0,0,0,0,0;m1 0,0,0,0,0;m2 0,0,0,0,0;");
        x.in(0);
        x.in(1);
        x.in(2);
        CHECK.due("month(1)", x.month(1), 1);
        skins("public", x, 0, 5, 5, 5, 5, 5);
        skins("smoked, odd bark", x, 1, 3, 3, 0, 3, 3);
        skins("poet", x, 2, 1, 0, 0, 0, 0);
        CHECK.due("month(6)", x.month(6), 7);
        skins("poet", x, 2, 2, 2, 1, 1, 1);
        x.out(2);
        x.month(1);
        skins("out", x, 2, 2, 2, 1, 1, 1);
        x.in(2);
        x.month(1);
        skins("poet, by months of the yard", x, 2, 2, 2, 1, 2, 1);
        x.bark(1);
        x.month(1);
        skins("public, bark 1", x, 0, 46, 46, 46, 46, 46);
        skins("smoked, bark 1", x, 1, 28, 28, 0, 28, 28);
        x.month(60);
        skins("public, 99 at most", x, 0, 99, 99, 99, 99, 99);
        TannedMen y = Check.told("t1 9;m3 0,0,0,0,0;");
        y.in(0);
        y.month(1);
        skins("old", y, 0, 27, 0, 0, 0, 0);
        y.month(5);
        skins("old, the least of like ones", y, 0, 54, 27, 27, 27, 27);
        y.bark(1);
        y.month(1);
        skins("old, bark 1", y, 0, 54, 30, 27, 27, 27);
        y.month(1);
        skins("old, the least thick", y, 0, 54, 30, 30, 27, 27);
        y.bark(9);
        y.month(60);
        skins("old, 99 at most", y, 0, 99, 99, 99, 99, 99);
        CHECK.due("month without men", Check.told("t1 1;").month(60), 60);
    }

    private static void monthRefused() {
        TannedMen x = Check.told("t1 1;m0 0,0,0,0,0;");
        for (int n : new int[] {Integer.MIN_VALUE, -1, 0, 61, Integer.MAX_VALUE}) {
            CHECK.refused("month(" + n + ")", x, o -> o.month(n), TannedMen.OUTSIDE);
            CHECK.due("no yard: month(" + n + ")", new TannedMen().month(n), TannedMen.OUTSIDE);
        }
        CHECK.due("no yard", new TannedMen().month(60), TannedMen.NOT);
    }

    private static void monthsFull() {
        TannedMen x = Check.told("t1 1;m2 0,0,0,0,0;");
        for (int i = 1; i <= 150; i++) {
            CHECK.due("month(60)", x.month(60), 60 * i);
        }
        CHECK.due("at 9000", x.month(1), 9001);
        CHECK.refused("above 9000", x, o -> o.month(1), TannedMen.FULL);
        CHECK.due("outside ahead of full", x.month(61), TannedMen.OUTSIDE);
        CHECK.refused("drift above 9000", x, o -> o.drift(1), TannedMen.FULL);
        CHECK.due("outside ahead of full", x.drift(0), TannedMen.OUTSIDE);
        x.undo();
        CHECK.due("drift at 9000", x.drift(60), 9060);
    }

    private static void in() {
        TannedMen x = Check.told("t2 1;m0 0,0,0,0,0;m0 0,0,0,0,0;m0 0,0,0,0,0;");
        CHECK.due("in(2)", x.in(2), 1);
        CHECK.refused("in(2) again", x, o -> o.in(2), TannedMen.NOT);
        CHECK.due("in(0)", x.in(0), 0);
        CHECK.due("not ahead of full", x.in(0), TannedMen.NOT);
        CHECK.refused("no pit is free", x, o -> o.in(1), TannedMen.FULL);
        CHECK.due("who is in", x.told(6), 5);
        x.out(2);
        CHECK.due("in(1)", x.in(1), 0);
        CHECK.due("who is in", x.told(6), 3);
        for (int off : FAR) {
            CHECK.due("in(" + off + ")", x.in(off), TannedMen.UNKNOWN);
        }
        CHECK.refused("in(3)", x, o -> o.in(3), TannedMen.UNKNOWN);
    }

    private static void out() {
        TannedMen x = Check.told("t1 6;m0 0,0,0,0,0;m0 0,0,0,0,0;s0 11;s1 12;s2 1;");
        CHECK.refused("out(0), not in", x, o -> o.out(0), TannedMen.NOT);
        x.in(0);
        x.month(1);
        CHECK.refused("out(1), not in", x, o -> o.out(1), TannedMen.NOT);
        CHECK.due("out(0)", x.out(0), 1 + 4);
        CHECK.due("who is in", x.told(6), 0);
        CHECK.due("thick still", x.skin(0, 0, 1), 6);
        x.month(1);
        CHECK.due("no thicker", x.skin(0, 0, 1), 6);
        for (int off : FAR) {
            CHECK.due("out(" + off + ")", x.out(off), TannedMen.UNKNOWN);
        }
        CHECK.due("out(2)", x.out(2), TannedMen.UNKNOWN);
    }

    private static void scrape() {
        TannedMen x = Check.told("t1 6;m0 30,2,3,4,5;m0 9,9,9,9,9;");
        CHECK.due("scrape(0, 0, 30)", x.scrape(0, 0, 30), 0);
        CHECK.due("glue", x.told(7), 30);
        CHECK.due("not so soft", x.scrape(0, 0, 1), TannedMen.NOT);
        CHECK.refused("not so soft", x, o -> o.scrape(0, 4, 6), TannedMen.NOT);
        CHECK.due("scrape(0, 4, 2)", x.scrape(0, 4, 2), 3);
        CHECK.due("scrape(1, 4, 1)", x.scrape(1, 4, 1), 8);
        CHECK.due("glue", x.told(7), 33);
        CHECK.due("soft elsewhere", x.skin(0, 3, 0), 4);
        for (int off : FAR) {
            CHECK.due("place " + off, x.scrape(0, off, 1), TannedMen.OUTSIDE);
            CHECK.due("by " + off, x.scrape(0, 1, off), TannedMen.OUTSIDE);
            CHECK.due("of " + off, x.scrape(off, 9, 99), TannedMen.UNKNOWN);
        }
        CHECK.refused("place 5", x, o -> o.scrape(0, 5, 1), TannedMen.OUTSIDE);
        CHECK.refused("by 0", x, o -> o.scrape(0, 1, 0), TannedMen.OUTSIDE);
        CHECK.refused("by 31, outside ahead of not", x, o -> o.scrape(0, 1, 31), TannedMen.OUTSIDE);
        CHECK.due("of 2", x.scrape(2, 1, 1), TannedMen.UNKNOWN);
    }

    private static void say() {
        TannedMen x = Check.told("t1 6;m0 1,2,3,4,5;m0 9,9,9,9,9;s4 10;s0 2;s1 1;");
        CHECK.due("say(0, 0)", x.say(0, 0), 15);
        CHECK.due("say(1, 0)", x.say(1, 0), 18);
        CHECK.due("say(2, 1)", x.say(2, 1), 10);
        CHECK.due("wounds of all", x.told(8), 28);
        x.in(0);
        x.month(60);
        CHECK.due("no hurt", x.say(0, 0), 18);
        CHECK.due("it counts as done all the same", x.told(14), 6);
        for (int off : FAR) {
            CHECK.due("say(0, " + off + ")", x.say(0, off), TannedMen.UNKNOWN);
            CHECK.due("say(" + off + ", 0)", x.say(off, 0), TannedMen.UNKNOWN);
        }
        CHECK.refused("say(3, 0)", x, o -> o.say(3, 0), TannedMen.UNKNOWN);
        CHECK.refused("say(0, 2): the saying is told first", x, o -> o.say(0, 2), TannedMen.UNKNOWN);
    }

    /** A smoked man never thickens in place 2, so that drifting wounds him for ever. */
    private static void woundsAtMost() {
        TannedMen x = Check.told("t1 1;m1 30,30,30,30,30;s2 60;");
        for (int i = 0; i < 130; i++) {
            x.drift(60);
        }
        int ahead = x.man(0, 2);
        CHECK.holds("drifting brought him near: " + ahead, ahead > 90000 && ahead < 99999);
        int each = x.hurt(0, 0);
        CHECK.holds("it hurts him yet", each >= 60);
        for (int i = 0; i < 200 && ahead < 99999; i++) {
            int now = x.say(0, 0);
            CHECK.due("say(0, 0)", now, Math.min(99999, ahead + each));
            ahead = now;
        }
        CHECK.due("wounds, 99999 at most", x.say(0, 0), 99999);
        x.drift(60);
        CHECK.due("wounds by draws, 99999 at most", x.man(0, 2), 99999);
    }

    private static void bark() {
        TannedMen x = Check.told("t1 6;m0 1,2,3,4,5;");
        CHECK.due("bark(9)", x.bark(9), 6);
        CHECK.due("bark(1)", x.bark(1), 9);
        CHECK.due("bark(1)", x.bark(1), 1);
        CHECK.due("now", x.told(1), 1);
        CHECK.due("done thrice", x.told(14), 3);
        for (int b : new int[] {Integer.MIN_VALUE, -1, 0, 10, Integer.MAX_VALUE}) {
            CHECK.refused("bark(" + b + ")", x, o -> o.bark(b), TannedMen.OUTSIDE);
            CHECK.due("no yard: bark(" + b + ")", new TannedMen().bark(b), TannedMen.OUTSIDE);
        }
        CHECK.due("no yard", new TannedMen().bark(5), TannedMen.NOT);
    }

    private static int root;

    private static int draw(int n) {
        root = (int) ((root * 1103515245L + 12345L) % (1L << 31));
        return root / 65536 % n;
    }

    /** The same months told by the calls that a drift stands for. */
    private static void byHand(TannedMen x, int n) {
        int men = x.told(2);
        for (int i = 0; i < n; i++) {
            if (men > 0) {
                int deed = draw(5);
                int m = draw(men);
                if (deed == 0) {
                    x.in(m);
                } else if (deed == 1) {
                    x.out(m);
                } else if (deed == 2 && x.told(3) > 0) {
                    x.say(draw(x.told(3)), m);
                } else if (deed == 3) {
                    x.scrape(m, draw(5), 1);
                }
            }
            x.month(1);
        }
    }

    private static void drift() {
        String[] yards = {
            "t2 4;m0 3,0,9,1,2;m1 5,5,5,5,5;m2 0,1,2,3,4;m3 20,0,0,0,10;s0 12;s2 6;s4 30;s2 18;",
            "t1 1;m3 1,1,1,1,1;s1 60;",
            "t3 9;m2 0,0,0,0,0;m2 1,1,1,1,1;",
            "t3 9;s2 60;",
            "t1 5;m0 0,0,0,0,0;m1 0,0,0,0,0;m2 0,0,0,0,0;m3 0,0,0,0,0;m0 1,1,1,1,1;m1 2,2,2,2,2;s0 9;",
        };
        int[] seeds = {0, 1, 5, 1000000007, Integer.MAX_VALUE};
        for (String text : yards) {
            for (int seed : seeds) {
                TannedMen x = Check.told(text);
                x.seed(seed);
                CHECK.due("drift(60)", x.drift(60), 60);
                CHECK.due("drift(1)", x.drift(1), 61);
                TannedMen y = Check.told(text);
                root = seed;
                byHand(y, 61);
                CHECK.due("one drift is one thing done", x.told(14), 2);
                CHECK.holds("the same yards", sameButUndo(x, y));
                CHECK.due("the seed", x.seed(0), root);
            }
        }
    }

    private static boolean sameButUndo(TannedMen x, TannedMen y) {
        x.keep(0);
        y.keep(0);
        return Check.seen(x).equals(Check.seen(y));
    }

    private static void driftRefused() {
        TannedMen x = Check.told("t1 1;m0 0,0,0,0,0;");
        x.seed(99);
        for (int n : new int[] {Integer.MIN_VALUE, -1, 0, 61, Integer.MAX_VALUE}) {
            CHECK.refused("drift(" + n + ")", x, o -> o.drift(n), TannedMen.OUTSIDE);
            CHECK.due("no yard: drift(" + n + ")", new TannedMen().drift(n), TannedMen.OUTSIDE);
        }
        CHECK.due("no yard", new TannedMen().drift(60), TannedMen.NOT);
        CHECK.due("the seed", x.seed(0), 99);
    }

    private static void undoEach() {
        TannedMen x = Check.told("t2 4;m3 5,5,5,5,5;s0 12;");
        CHECK.due("nothing to undo", x.undo(), TannedMen.NOT);
        String[] seen = new String[7];
        seen[0] = Check.seen(x);
        x.in(0);
        seen[1] = Check.seen(x);
        x.month(7);
        seen[2] = Check.seen(x);
        x.out(0);
        seen[3] = Check.seen(x);
        x.scrape(0, 2, 4);
        seen[4] = Check.seen(x);
        x.say(0, 0);
        seen[5] = Check.seen(x);
        x.bark(9);
        seen[6] = Check.seen(x);
        x.drift(30);
        int seed = x.seed(0);
        x.seed(seed);
        for (int left = 6; left >= 0; left--) {
            CHECK.due("undo()", x.undo(), left);
            CHECK.holds("as ahead of deed " + left, seen[left].equals(Check.seen(x)));
        }
        CHECK.due("the seed stays", x.seed(0), seed);
        CHECK.due("undo()", x.undo(), TannedMen.NOT);
        x.hear(0, 0, 1);
        x.write(0, 1);
        CHECK.due("what is heard, written is not undone", x.undo(), TannedMen.NOT);
    }

    private static void undoSixteen() {
        TannedMen x = Check.told("t2 4;m0 3,0,9,1,2;");
        for (int i = 1; i <= 20; i++) {
            x.month(1);
            CHECK.due("can be undone", x.told(14), Math.min(16, i));
        }
        x.undo();
        x.undo();
        CHECK.due("months", x.told(5), 18);
        x.month(5);
        CHECK.due("can be undone", x.told(14), 15);
        for (int left = 14; left >= 0; left--) {
            CHECK.due("undo()", x.undo(), left);
        }
        CHECK.due("the oldest are lost", x.told(5), 4);
        CHECK.due("undo()", x.undo(), TannedMen.NOT);
    }
}
