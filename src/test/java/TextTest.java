/** Promises 2 to 4: the text, its faults, the yard that it becomes. */
public final class TextTest {
    private static final Check CHECK = new Check("TextTest");
    private static final String MAN = "m0 0,0,0,0,0;";
    private static final String SAYING = "s0 1;";

    public static void main(String[] args) {
        feeding();
        goodTexts();
        misplaced();
        badNumbers();
        tooMany();
        emptyTexts();
        faultLeavesAll();
        newYard();
        textsOneAfterAnother();
        CHECK.end();
    }

    private static void feeding() {
        TannedMen x = new TannedMen();
        CHECK.due("feed(-1)", x.feed(-1), TannedMen.OUTSIDE);
        CHECK.due("feed(256)", x.feed(256), TannedMen.OUTSIDE);
        CHECK.due("feed(least)", x.feed(Integer.MIN_VALUE), TannedMen.OUTSIDE);
        CHECK.due("feed(most)", x.feed(Integer.MAX_VALUE), TannedMen.OUTSIDE);
        CHECK.due("letters", x.told(4), 0);
        CHECK.due("feed(0)", x.feed(0), 1);
        CHECK.due("feed(255)", x.feed(255), 2);
        for (int n = 3; n <= 240; n++) {
            CHECK.due("feed, letter " + n, x.feed(32), n);
        }
        CHECK.due("letters", x.told(4), 240);
        CHECK.due("feed, full", x.feed(32), TannedMen.FULL);
        CHECK.due("feed, outside ahead of full", x.feed(256), TannedMen.OUTSIDE);
        CHECK.due("letters", x.told(4), 240);
        CHECK.due("yard()", x.yard(), -11);
        CHECK.due("letters behind yard()", x.told(4), 0);
        CHECK.due("feed behind yard()", x.feed(116), 1);
    }

    private static void good(String text, int men) {
        TannedMen x = Check.fed(text);
        CHECK.due("yard of '" + text + "'", x.yard(), men);
        CHECK.due("fault of '" + text + "'", x.fault(), TannedMen.NONE);
        CHECK.due("letters behind '" + text + "'", x.told(4), 0);
    }

    private static void bad(String text, int kind, int at) {
        TannedMen x = Check.fed(text);
        CHECK.due("yard of '" + text + "'", x.yard(), -10 - kind);
        CHECK.due("fault of '" + text + "'", x.fault(), at);
        CHECK.due("letters behind '" + text + "'", x.told(4), 0);
        CHECK.due("pits behind '" + text + "'", x.told(0), 0);
    }

    private static void goodTexts() {
        good("t1 1;", 0);
        good("t3 9;", 0);
        good("  t  1  1  ;  ", 0);
        good("t001 009;", 0);
        good("t1 1;m0 0,0,0,0,0;", 1);
        good("t1 1; m 3 30 , 30 , 30 , 30 , 30 ; s 4 60 ; ", 1);
        good("t1 1;s0 1;m003 030,00,000,1,2;s4 060;m0 0,0,0,0,0;", 2);
        good("t1 1;" + MAN.repeat(6) + SAYING.repeat(8), 6);
        TannedMen x = Check.told("t2 7;m3 1,2,3,4,5;s4 60;m1 30,0,0,0,9;s2 1;");
        CHECK.due("pits", x.told(0), 2);
        CHECK.due("bark", x.told(1), 7);
        CHECK.due("men", x.told(2), 2);
        CHECK.due("sayings", x.told(3), 2);
        CHECK.due("kind of 0", x.man(0, 0), 3);
        CHECK.due("kind of 1", x.man(1, 0), 1);
        for (int p = 0; p < 5; p++) {
            CHECK.due("soft of 0 in " + p, x.skin(0, p, 0), p + 1);
        }
        CHECK.due("soft of 1 in 0", x.skin(1, 0, 0), 30);
        CHECK.due("soft of 1 in 4", x.skin(1, 4, 0), 9);
        CHECK.due("place of 0", x.saying(0, 0), 4);
        CHECK.due("sharp of 0", x.saying(0, 1), 60);
        CHECK.due("place of 1", x.saying(1, 0), 2);
        CHECK.due("sharp of 1", x.saying(1, 1), 1);
    }

    private static void misplaced() {
        bad("x", 1, 0);
        bad("  x", 1, 2);
        bad("m0 0,0,0,0,0;", 1, 0);
        bad("s0 1;t1 1;", 1, 0);
        bad("1", 1, 0);
        bad(";", 1, 0);
        bad("T1 1;", 1, 0);
        bad("t", 1, 1);
        bad("t  ", 1, 3);
        bad("t;", 1, 1);
        bad("tt", 1, 1);
        bad("t-1 1;", 1, 1);
        bad("t1", 1, 2);
        bad("t1;", 1, 2);
        bad("t1,1;", 1, 2);
        bad("t1 1", 1, 4);
        bad("t1 1 ", 1, 5);
        bad("t1 1,", 1, 4);
        bad("t1 1 1;", 1, 5);
        bad("t1 1 1234;", 1, 5);
        bad("t1 1m", 1, 4);
        bad("t1 1;;", 1, 5);
        bad("t1 1;x", 1, 5);
        bad("t1 1; 1", 1, 6);
        bad("t1 1; 1234", 1, 6);
        bad("t1 1;m", 1, 6);
        bad("t1 1;mm", 1, 6);
        bad("t1 1;m0,", 1, 7);
        bad("t1 1;m0 0 0", 1, 10);
        bad("t1 1;m0 0;", 1, 9);
        bad("t1 1;m0 0,,", 1, 10);
        bad("t1 1;m0 0,;", 1, 10);
        bad("t1 1;m0 0,0,0,0;", 1, 15);
        bad("t1 1;m0 0,0,0,0,0,", 1, 17);
        bad("t1 1;m0 0,0,0,0,0", 1, 17);
        bad("t1 1;m0 0,0,0,0,0t", 1, 17);
        bad("t1 1;s", 1, 6);
        bad("t1 1;s0", 1, 7);
        bad("t1 1;s0,1;", 1, 7);
        bad("t1 1;s0 1,", 1, 9);
        bad("t1 1;s0 1 s", 1, 10);
        bad("t1 1;" + (char) 0, 1, 5);
        bad("t1 1;" + (char) 9 + "m", 1, 5);
        bad("t1 1;" + (char) 255, 1, 5);
        bad("t1" + (char) 160 + "1;", 1, 2);
    }

    private static void badNumbers() {
        bad("t0 1;", 2, 1);
        bad("t4 1;", 2, 1);
        bad("t 4", 2, 2);
        bad("t12;", 2, 1);
        bad("t1 0;", 2, 3);
        bad("t1 10", 2, 3);
        bad("t1  10x", 2, 4);
        bad("t0001 1;", 2, 1);
        bad("t1 0001;", 2, 3);
        bad("t1 4294967297;", 2, 3);
        bad("t1 000000000000000000000000000001;", 2, 3);
        bad("t999x", 2, 1);
        bad("t1 1;m4 0,0,0,0,0;", 2, 6);
        bad("t1 1;m00 31,0,0,0,0;", 2, 9);
        bad("t1 1;m0 0,0,0,0,31", 2, 16);
        bad("t1 1;m0 0,0, 999,0,31;", 2, 13);
        bad("t1 1;s5 1;", 2, 6);
        bad("t1 1;s0 0;", 2, 8);
        bad("t1 1;s0 61;", 2, 8);
        bad("t1 1;s0 0001;", 2, 8);
        bad("t1 1;s0 1;s4 100", 2, 13);
    }

    private static void tooMany() {
        bad("t1 1;t", 3, 5);
        bad("t1 1; t1 1;", 3, 6);
        bad("t1 1;" + MAN + "t1 1;", 3, 18);
        bad("t1 1;" + MAN.repeat(6) + "m", 3, 83);
        bad("t1 1;" + MAN.repeat(6) + " m9999", 3, 84);
        bad("t1 1;" + SAYING.repeat(8) + "s", 3, 45);
        bad("t1 1;" + SAYING.repeat(8) + MAN + "s0 1;", 3, 58);
        bad("t1 1;" + MAN.repeat(6) + "x", 1, 83);
    }

    private static void emptyTexts() {
        good("", 0);
        good("     ", 0);
        TannedMen x = Check.told("t1 1;m0 1,1,1,1,1;s0 9;");
        CHECK.due("a man", x.told(2), 1);
        Check.feed(x, "  ");
        CHECK.due("yard of blanks", x.yard(), 0);
        for (int what = 0; what <= 14; what++) {
            int due = what >= 9 && what <= 11 ? TannedMen.NONE : 0;
            CHECK.due("blanks: told(" + what + ")", x.told(what), due);
        }
        CHECK.due("no yard any more", x.month(1), TannedMen.NOT);
    }

    private static void faultLeavesAll() {
        TannedMen x = Check.told("t2 4;m0 3,0,9,1,2;m3 5,5,5,5,5;s0 12;");
        x.in(1);
        x.month(2);
        x.scrape(0, 2, 4);
        x.hear(0, 0, 1);
        x.write(0, 3);
        x.keep(1);
        x.say(0, 0);
        String ahead = Check.seen(x);
        Check.feed(x, "t1 1;m1 0,0,0,0,0;m1 1,1,1,1,1;m2 2,2,2,2,2;s3 3;s9");
        CHECK.due("yard with a fault", x.yard(), -12);
        CHECK.due("its letter", x.fault(), 50);
        CHECK.holds("all else is as it was", ahead.equals(Check.seen(x)));
        CHECK.due("kind", x.man(1, 0), 3);
        CHECK.due("place", x.saying(0, 0), 0);
        CHECK.due("still kept", x.goBack(1), 1);
        CHECK.due("the fault stays", x.fault(), 50);
        CHECK.due("yard()", x.yard(), 0);
        CHECK.due("the latest has none", x.fault(), TannedMen.NONE);
    }

    private static void newYard() {
        TannedMen x = Check.told("t2 4;m0 3,0,9,1,2;m3 5,5,5,5,5;s0 12;");
        x.seed(77);
        x.in(1);
        x.month(2);
        x.scrape(0, 2, 4);
        x.hear(0, 0, 1);
        x.write(0, 3);
        x.keep(0);
        x.keep(1);
        x.bark(9);
        x.say(0, 0);
        Check.feed(x, "t2 4;m0 3,0,9,1,2;m3 5,5,5,5,5;s0 12;");
        CHECK.due("the same again", x.yard(), 2);
        CHECK.holds("as if new", Check.seen(x).equals(Check.seen(Check.told("t2 4;m0 3,0,9,1,2;m3 5,5,5,5,5;s0 12;"))));
        CHECK.due("thick", x.skin(1, 0, 1), 0);
        CHECK.due("undo()", x.undo(), TannedMen.NOT);
        CHECK.due("goBack(0)", x.goBack(0), TannedMen.NOT);
        CHECK.due("goBack(1)", x.goBack(1), TannedMen.NOT);
        CHECK.due("the seed stays", x.seed(1), 77);
    }

    private static void next(TannedMen x, String text, int answer, int fault) {
        Check.feed(x, text);
        CHECK.due("yard of '" + text + "', not the first", x.yard(), answer);
        CHECK.due("fault of '" + text + "', not the first", x.fault(), fault);
    }

    /** Nothing of an earlier text, good or bad, is left in a later one. */
    private static void textsOneAfterAnother() {
        TannedMen x = new TannedMen();
        next(x, "t1 1;x", -11, 5);
        next(x, MAN, -11, 0);
        next(x, "t1 19", -12, 3);
        next(x, "t1 1", -11, 4);
        next(x, "t1 1      ", -11, 10);
        next(x, "t1 1", -11, 4);
        next(x, "t2 2;" + MAN + "s4 9;", 1, TannedMen.NONE);
        next(x, "t2 2", -11, 4);
        next(x, "t3 3;" + MAN + MAN + "s4 9;s4 9;", 2, TannedMen.NONE);
        next(x, "s0 1;", -11, 0);
        CHECK.due("sayings", x.told(3), 2);
        next(x, "t1 1;", 0, TannedMen.NONE);
        CHECK.due("sayings", x.told(3), 0);
        next(x, "t1 5;", 0, TannedMen.NONE);
        CHECK.due("bark", x.told(1), 5);
        next(x, "", 0, TannedMen.NONE);
        CHECK.due("bark", x.told(1), 0);
        CHECK.due("pits", x.told(0), 0);
        next(x, " ", 0, TannedMen.NONE);
        CHECK.due("pits", x.told(0), 0);
    }
}
