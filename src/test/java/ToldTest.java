/** Promises 5 to 9: what can be looked at. */
public final class ToldTest {
    private static final Check CHECK = new Check("ToldTest");
    private static final int[] OFF = {Integer.MIN_VALUE, -1, 15, 100, Integer.MAX_VALUE};

    public static void main(String[] args) {
        numbers();
        best();
        chosen();
        tender();
        man();
        skin();
        saying();
        hurt();
        CHECK.end();
    }

    private static void numbers() {
        TannedMen x = Check.told("t3 5;m0 1,2,3,4,5;m0 0,0,0,0,0;m2 0,0,0,0,9;s0 12;s4 7;");
        Check.feed(x, "t1 ");
        x.in(0);
        x.in(2);
        x.month(4);
        x.bark(2);
        x.scrape(0, 4, 2);
        x.scrape(2, 4, 5);
        x.say(1, 2);
        x.say(0, 1);
        x.hear(0, 0, 0);
        x.hear(0, 0, 0);
        x.write(0, 0);
        int[] due = {3, 2, 3, 2, 3, 4, 5, 7, 11 + 12, 0, 0, 24, 2, 1, 8};
        for (int what = 0; what < due.length; what++) {
            CHECK.due("told(" + what + ")", x.told(what), due[what]);
        }
        for (int what : OFF) {
            CHECK.due("told(" + what + ")", x.told(what), TannedMen.OUTSIDE);
        }
    }

    private static void best() {
        TannedMen x = Check.told("t1 1;m0 9,0,0,0,0;m0 0,9,0,0,0;m0 0,8,0,0,0;m0 0,0,8,30,30;s0 5;s1 5;s2 5;");
        CHECK.due("best: least of like ones", x.told(9), 2);
        x.scrape(3, 2, 1);
        CHECK.due("best: the least hurt", x.told(9), 3);
        CHECK.due("best: no sayings", Check.told("t1 1;m0 9,0,0,0,0;m0 0,0,0,0,0;").told(9), 0);
        CHECK.due("best: no men", Check.told("t1 1;s0 5;").told(9), TannedMen.NONE);
        // a hurt is never below 0: much thickness in one place does not help elsewhere
        TannedMen y = Check.told("t1 9;m0 10,10,0,0,0;m3 0,11,0,0,0;s0 1;s1 1;");
        y.in(1);
        y.month(1);
        CHECK.due("best: 0 at least", y.told(9), 1);
        CHECK.due("hurt of 1 by 0", y.hurt(1, 0), 0);
        TannedMen z = Check.told("t1 9;m0 3,3,0,0,0;m3 0,11,0,0,0;s0 1;s1 1;");
        z.in(1);
        z.month(1);
        CHECK.due("best: 8 against 12", z.told(9), 0);
    }

    private static void chosen() {
        TannedMen x = Check.told("t1 1;m0 1,1,5,5,0;m0 5,5,1,1,0;m0 0,9,9,9,0;s0 5;s1 5;s2 5;s3 5;s4 5;");
        // saying 0 is for man 2, 1 for 0, 2 and 3 for 1, 4 for 0 (the least of like ones)
        CHECK.due("chosen: 0 and 1 have two each", x.told(10), 0);
        x.scrape(1, 1, 5);
        CHECK.due("chosen: 1 has three", x.told(10), 1);
        CHECK.due("chosen: by one saying", Check.told("t1 1;m0 5,0,0,0,0;m0 4,0,0,0,0;s0 5;").told(10), 1);
        CHECK.due("chosen: by the first, and another", Check.told("t1 1;m0 5,0,0,0,0;m0 4,0,0,0,0;s0 5;s1 5;s0 1;").told(10), 1);
        CHECK.due("chosen: no sayings", Check.told("t1 1;m0 9,0,0,0,0;").told(10), TannedMen.NONE);
        CHECK.due("chosen: no men", Check.told("t1 1;s0 5;").told(10), TannedMen.NONE);
        CHECK.due("chosen: other than best",
            Check.told("t1 1;m0 0,0,30,0,0;m0 1,1,0,0,0;s0 1;s1 1;s2 1;").told(10), 0);
        CHECK.due("best: other than chosen",
            Check.told("t1 1;m0 0,0,30,0,0;m0 1,1,0,0,0;s0 1;s1 1;s2 1;").told(9), 1);
    }

    private static void tender() {
        TannedMen x = Check.told("t1 4;m0 1,2,3,2,3;m0 3,0,0,0,4;m0 4,4,4,4,4;");
        CHECK.due("tender", x.told(11), 14);
        x.scrape(1, 4, 1);
        CHECK.due("tender", x.told(11), 20);
        CHECK.due("tender: no men", Check.told("t1 1;s0 5;").told(11), TannedMen.NONE);
        TannedMen y = Check.told("t1 4;m0 0,0,0,2,0;");
        y.in(0);
        y.month(1);
        CHECK.due("tender: below 0", y.told(11), 3);
        CHECK.due("tender: all alike", Check.told("t1 4;m0 0,0,0,0,0;m0 0,0,0,0,0;").told(11), 0);
    }

    private static void man() {
        TannedMen x = Check.told("t1 4;m0 0,0,0,0,0;m1 2,0,0,0,0;m2 0,0,0,0,0;m3 0,0,0,0,0;s0 5;s0 6;s0 4;s1 5;");
        for (int m = 0; m < 4; m++) {
            CHECK.due("kind of " + m, x.man(m, 0), m);
            CHECK.due("is in: " + m, x.man(m, 1), 0);
            CHECK.due("wounds of " + m, x.man(m, 2), 0);
        }
        CHECK.due("bears: 5 and less", x.man(0, 3), 1 + 4 + 8);
        CHECK.due("bears of 1", x.man(1, 3), 8);
        CHECK.due("feels of 0", x.man(0, 4), 15);
        x.in(0);
        CHECK.due("is in", x.man(0, 1), 1);
        x.month(1);
        CHECK.due("bears all", x.man(0, 3), 15);
        CHECK.due("feels: 1 and more", x.man(0, 4), 1 + 2 + 8);
        x.say(1, 0);
        CHECK.due("wounds", x.man(0, 2), 2);
        TannedMen y = Check.told("t1 9;m0 0,9,9,9,4;s0 1;s4 9;");
        y.in(0);
        CHECK.due("feels both", y.man(0, 4), 3);
        y.month(1);
        CHECK.due("feels the second alone", y.man(0, 4), 2);
        for (int what : new int[] {Integer.MIN_VALUE, -1, 5, Integer.MAX_VALUE}) {
            CHECK.due("man(0, " + what + ")", x.man(0, what), TannedMen.OUTSIDE);
        }
        for (int m : new int[] {Integer.MIN_VALUE, -1, 4, 6, Integer.MAX_VALUE}) {
            CHECK.due("man(" + m + ", 0)", x.man(m, 0), TannedMen.UNKNOWN);
            CHECK.due("man(" + m + ", 5)", x.man(m, 5), TannedMen.UNKNOWN);
        }
    }

    private static void skin() {
        TannedMen x = Check.told("t1 4;m0 1,2,3,4,5;m0 6,7,8,9,10;");
        x.in(1);
        x.month(3);
        for (int p = 0; p < 5; p++) {
            CHECK.due("soft of 0", x.skin(0, p, 0), p + 1);
            CHECK.due("soft of 1", x.skin(1, p, 0), p + 6);
            CHECK.due("thick of 0", x.skin(0, p, 1), 0);
            CHECK.due("thick of 1", x.skin(1, p, 1), 12);
        }
        for (int off : new int[] {Integer.MIN_VALUE, -1, 5, Integer.MAX_VALUE}) {
            CHECK.due("skin(0, " + off + ", 0)", x.skin(0, off, 0), TannedMen.OUTSIDE);
            CHECK.due("skin(0, 0, " + off + ")", x.skin(0, 0, off), TannedMen.OUTSIDE);
            CHECK.due("skin(" + off + ", 9, 9)", x.skin(off, 9, 9), TannedMen.UNKNOWN);
        }
        CHECK.due("skin(0, 0, 2)", x.skin(0, 0, 2), TannedMen.OUTSIDE);
        CHECK.due("skin(2, 0, 0)", x.skin(2, 0, 0), TannedMen.UNKNOWN);
    }

    private static void saying() {
        TannedMen x = Check.told("t1 4;s3 1;s1 60;");
        CHECK.due("place", x.saying(0, 0), 3);
        CHECK.due("sharp", x.saying(0, 1), 1);
        CHECK.due("place", x.saying(1, 0), 1);
        CHECK.due("sharp", x.saying(1, 1), 60);
        for (int off : new int[] {Integer.MIN_VALUE, -1, 2, Integer.MAX_VALUE}) {
            CHECK.due("saying(0, " + off + ")", x.saying(0, off), TannedMen.OUTSIDE);
            CHECK.due("saying(" + off + ", 0)", x.saying(off, 0), TannedMen.UNKNOWN);
            CHECK.due("saying(" + off + ", 2)", x.saying(off, 2), TannedMen.UNKNOWN);
        }
    }

    private static void hurt() {
        TannedMen x = Check.told("t1 9;m0 3,30,0,0,0;m0 0,0,0,0,0;s0 12;s1 60;");
        CHECK.due("hurt(0, 0)", x.hurt(0, 0), 15);
        CHECK.due("hurt(0, 1)", x.hurt(0, 1), 90);
        CHECK.due("hurt(1, 0)", x.hurt(1, 0), 12);
        x.in(0);
        x.month(1);
        CHECK.due("hurt(0, 0)", x.hurt(0, 0), 6);
        CHECK.due("hurt(0, 1)", x.hurt(0, 1), 81);
        x.month(1);
        CHECK.due("hurt(0, 0), 0 at least", x.hurt(0, 0), 0);
        for (int off : new int[] {Integer.MIN_VALUE, -1, 2, Integer.MAX_VALUE}) {
            CHECK.due("hurt(0, " + off + ")", x.hurt(0, off), TannedMen.UNKNOWN);
            CHECK.due("hurt(" + off + ", 0)", x.hurt(off, 0), TannedMen.UNKNOWN);
        }
    }
}
