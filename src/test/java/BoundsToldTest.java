/** Promises 5 to 9 at their bounds, with the terms that they lean on: a method for each sentence. */
public final class BoundsToldTest {
    private static final Check CHECK = new Check("BoundsToldTest");
    private static final int NONE = TannedMen.NONE;
    private static final int UNKNOWN = TannedMen.UNKNOWN;
    private static final int OUTSIDE = TannedMen.OUTSIDE;
    private static final String MAN = "m0 0,0,0,0,0;";
    private static final String SAYING = "s0 1;";

    public static void main(String[] args) throws IllegalAccessException {
        numbersAsTheyCome();
        toldOutside();
        toldYard();
        toldLetters();
        toldMonths();
        toldWhoIsIn();
        toldGlue();
        toldGlueAtMost();
        toldWoundsOfAll();
        bestNone();
        bestOfLikeOnes();
        bestIsNotBelowNought();
        chosenNone();
        chosenOfLikeOnes();
        chosenIsNotBelowNought();
        tenderNone();
        tenderFirstAndLast();
        tenderOfLikeOnes();
        tenderBelowNought();
        tenderLessThick();
        toldHeardBookUndone();
        manUnknown();
        manOutside();
        manBorneAtFive();
        manFeltAtOne();
        manSetsOfAllAndNone();
        skinBounds();
        sayingBounds();
        hurtMost();
        hurtNoughtAtLeast();
        hurtUnknown();
        call512();
        CHECK.end();
    }

    /** 'What has a number has it from 0 on, as it comes.' */
    private static void numbersAsTheyCome() {
        TannedMen x = Check.told("t1 1;s4 40;m3 1,2,3,4,5;s2 20;m1 6,7,8,9,10;");
        CHECK.due("the first man", x.man(0, 0), 3);
        CHECK.due("the last man", x.man(1, 0), 1);
        CHECK.due("the first saying", x.saying(0, 1), 40);
        CHECK.due("the last saying", x.saying(1, 1), 20);
        CHECK.due("the first place", x.skin(0, 0, 0), 1);
        CHECK.due("the last place", x.skin(1, 4, 0), 10);
    }

    /** Promise 5: 0 to 14, else 'OUTSIDE'. */
    private static void toldOutside() {
        for (TannedMen x : new TannedMen[] {new TannedMen(), Check.told("t1 1;" + MAN + SAYING)}) {
            for (int what : new int[] {Integer.MIN_VALUE, -2, -1, 15, 16, 64, Integer.MAX_VALUE}) {
                CHECK.due("told(" + what + ")", x.told(what), OUTSIDE);
            }
            for (int what = 0; what <= 14; what++) {
                CHECK.holds("told(" + what + ")", x.told(what) >= NONE);
            }
        }
    }

    /** Promise 5: '0 PITS, 1 BARK, 2 MEN, 3 SAYINGS', least and greatest. */
    private static void toldYard() {
        TannedMen least = Check.told("t1 1;");
        TannedMen most = Check.told("t3 9;" + MAN.repeat(6) + SAYING.repeat(8));
        int[] dueOfLeast = {1, 1, 0, 0};
        int[] dueOfMost = {3, 9, 6, 8};
        for (int what = 0; what <= 3; what++) {
            CHECK.due("no yard: told(" + what + ")", new TannedMen().told(what), 0);
            CHECK.due("the least: told(" + what + ")", least.told(what), dueOfLeast[what]);
            CHECK.due("the most: told(" + what + ")", most.told(what), dueOfMost[what]);
        }
        most.bark(1);
        CHECK.due("bark that is now", most.told(1), 1);
    }

    /** Promise 5: '4 letters of THE TEXT', 0 to 240. */
    private static void toldLetters() {
        TannedMen x = new TannedMen();
        CHECK.due("letters", x.told(4), 0);
        for (int i = 0; i < 239; i++) {
            x.feed(255);
        }
        CHECK.due("letters", x.told(4), 239);
        x.feed(255);
        CHECK.due("letters", x.told(4), 240);
        x.feed(255);
        CHECK.due("letters", x.told(4), 240);
    }

    /** Promise 5: '5 MONTHS' ('0 at first'), as far as they go. */
    private static void toldMonths() {
        TannedMen x = Check.told("t1 1;");
        CHECK.due("months", x.told(5), 0);
        for (int i = 0; i < 151; i++) {
            x.month(60);
        }
        CHECK.due("months", x.told(5), 9060);
        x.month(1);
        CHECK.due("months", x.told(5), 9060);
    }

    /** Promise 5: '6 who is in (a SET of MEN)'; 'A SET is a whole number, bit k for k'. */
    private static void toldWhoIsIn() {
        for (int m = 0; m < 6; m++) {
            TannedMen x = Check.told("t3 1;" + MAN.repeat(6));
            CHECK.due("nobody", x.told(6), 0);
            x.in(m);
            CHECK.due("man " + m, x.told(6), 1 << m);
        }
        TannedMen x = Check.told("t3 1;" + MAN.repeat(6));
        x.in(3);
        x.in(5);
        x.in(4);
        CHECK.due("3, 4, 5", x.told(6), 8 + 16 + 32);
    }

    /** Promise 5: '7 GLUE', from 0 to the most that six men have on them. */
    private static void toldGlue() {
        TannedMen x = Check.told("t1 1;" + "m0 30,30,30,30,30;".repeat(6));
        CHECK.due("none", x.told(7), 0);
        for (int i = 0; i < 30; i++) {
            x.scrape(i / 5, i % 5, 30);
            CHECK.due("glue", x.told(7), 30 * (i + 1));
        }
        x.scrape(5, 4, 1);
        CHECK.due("glue", x.told(7), 900);
    }

    /** 'GLUE (of all) is n more (999999 at most)': 900 is all that a yard has, so it is set near it. */
    private static void toldGlueAtMost() throws IllegalAccessException {
        TannedMen x = Check.told("t1 1;m0 30,30,30,30,30;");
        x.scrape(0, 0, 17);
        CHECK.holds("where glue is held", Slots.set(x, o -> o.told(7), 999950));
        x.scrape(0, 1, 30);
        CHECK.due("below", x.told(7), 999980);
        x.scrape(0, 2, 19);
        CHECK.due("just there", x.told(7), 999999);
        x.undo();
        x.scrape(0, 2, 20);
        CHECK.due("by one too much", x.told(7), 999999);
        x.undo();
        CHECK.due("as ahead of it", x.told(7), 999980);
        x.scrape(0, 2, 30);
        CHECK.due("far too much", x.told(7), 999999);
        CHECK.due("soft all the same", x.skin(0, 2, 0), 0);
        x.seed(Seeds.drawing(5, 3, 1, 0, 5, 3));
        x.drift(1);
        CHECK.due("scraped by draws", x.skin(0, 3, 0), 29);
        CHECK.due("by draws", x.told(7), 999999);
    }

    /** Promise 5: '8 WOUNDS of all': 99999 is the most of one man, not of all. */
    private static void toldWoundsOfAll() {
        CHECK.due("none", Check.told("t1 1;" + MAN + SAYING).told(8), 0);
        TannedMen x = Wounded.near();
        x.say(0, 0);
        int others = x.man(1, 2);
        CHECK.holds("the other has some, too", others > 0);
        CHECK.due("of both", x.told(8), 99999 + others);
    }

    /** 'BEST: .. NONE: there are none.' */
    private static void bestNone() {
        CHECK.due("no yard", new TannedMen().told(9), NONE);
        CHECK.due("no men", Check.told("t1 1;").told(9), NONE);
        CHECK.due("no men, eight sayings", Check.told("t1 1;" + SAYING.repeat(8)).told(9), NONE);
        CHECK.due("a man", Check.told("t1 1;" + MAN + SAYING).told(9), 0);
        CHECK.due("men, no sayings: all alike", Check.told("t1 1;" + MAN + MAN).told(9), 0);
    }

    /** 'BEST: the MAN whom all SAYINGS together HURT least; of like ones the least'. */
    private static void bestOfLikeOnes() {
        CHECK.due("all alike", Check.told("t1 1;" + MAN.repeat(6) + SAYING).told(9), 0);
        CHECK.due("the last two", Check.told("t1 1;m0 1,0,0,0,0;m0 0,1,0,0,0;m0 0,1,9,0,0;s0 1;s1 1;s0 1;").told(9), 1);
        CHECK.due("the last", Check.told("t1 1;m0 2,0,0,0,0;m0 0,2,0,0,0;m0 1,0,0,0,0;s0 1;s1 1;").told(9), 2);
        CHECK.due("like sums", Check.told("t1 1;m0 9,9,0,0,0;m0 3,1,0,0,0;m0 2,2,0,0,0;s0 1;s1 1;").told(9), 1);
    }

    /** HURT is '0 at least' in BEST, too: what is more than enough in a place is no help in another. */
    private static void bestIsNotBelowNought() {
        TannedMen x = Check.told("t1 9;m3 0,2,0,0,0;m0 1,0,0,0,0;s0 1;s1 1;");
        x.in(0);
        x.month(1);
        // man 0 is 27 thick in place 0: 0 and 3; man 1: 2 and 1
        CHECK.due("3 to 3: the least", x.told(9), 0);
        x.scrape(1, 0, 1);
        CHECK.due("3 to 2", x.told(9), 1);
    }

    /** 'CHOSEN: .. NONE: no MEN, SAYINGS.' */
    private static void chosenNone() {
        CHECK.due("no yard", new TannedMen().told(10), NONE);
        CHECK.due("neither", Check.told("t1 1;").told(10), NONE);
        CHECK.due("no men", Check.told("t1 1;" + SAYING.repeat(8)).told(10), NONE);
        CHECK.due("no sayings", Check.told("t1 1;" + MAN.repeat(6)).told(10), NONE);
        CHECK.due("one of each", Check.told("t1 1;" + MAN + SAYING).told(10), 0);
    }

    /** 'CHOSEN: each SAYING is for the MAN it HURTS least (of like ones the least)', 'most .. of like ones the least'. */
    private static void chosenOfLikeOnes() {
        CHECK.due("all alike", Check.told("t1 1;" + MAN.repeat(6) + SAYING.repeat(8)).told(10), 0);
        String three = "t1 1;m0 9,9,9,0,0;m0 0,9,0,9,0;m0 9,0,9,9,0;";
        CHECK.due("one each of 1 and 2", Check.told(three + "s1 1;s0 1;").told(10), 1);
        CHECK.due("one of 1, two of 2", Check.told(three + "s1 1;s0 1;s1 2;").told(10), 2);
        CHECK.due("two of 0, two of 2", Check.told(three + "s1 1;s1 2;s3 1;s3 2;").told(10), 0);
        CHECK.due("place 4, alike of all, is for 0", Check.told(three + "s1 1;s4 1;").told(10), 0);
        CHECK.due("place 2, for 1 alone", Check.told(three + "s2 60;").told(10), 1);
    }

    /** HURT is '0 at least' in CHOSEN, too: of two who feel nothing the thicker one is not hurt less. */
    private static void chosenIsNotBelowNought() {
        TannedMen x = Check.told("t2 1;" + MAN + MAN + "s0 1;");
        x.in(0);
        x.in(1);
        x.month(1);
        x.out(0);
        x.month(9);
        CHECK.due("thick by 1 and by 10", x.told(10), 0);
        CHECK.due("the best, too", x.told(9), 0);
    }

    /** 'TENDER: .. NONE.' */
    private static void tenderNone() {
        CHECK.due("no yard", new TannedMen().told(11), NONE);
        CHECK.due("no men", Check.told("t1 1;" + SAYING).told(11), NONE);
        CHECK.due("a man", Check.told("t1 1;" + MAN).told(11), 0);
    }

    /** 'TENDER: the MAN and PLACE (10 times the MAN and the PLACE) where SOFT less THICK is greatest'. */
    private static void tenderFirstAndLast() {
        for (int m = 0; m < 6; m++) {
            for (int p = 0; p < 5; p++) {
                StringBuilder text = new StringBuilder("t1 1;");
                for (int q = 0; q < 6; q++) {
                    text.append("m0 ");
                    for (int r = 0; r < 5; r++) {
                        text.append(q == m && r == p ? 30 : 29).append(r < 4 ? ',' : ';');
                    }
                }
                CHECK.due("man " + m + ", place " + p, Check.told(text.toString()).told(11), 10 * m + p);
            }
        }
    }

    /** 'TENDER: .. of like ones the least'. */
    private static void tenderOfLikeOnes() {
        CHECK.due("all alike", Check.told("t1 1;" + MAN.repeat(6)).told(11), 0);
        CHECK.due("in one man", Check.told("t1 1;" + MAN + "m0 0,0,7,0,7;").told(11), 12);
        CHECK.due("in two men", Check.told("t1 1;" + MAN + "m0 0,0,0,0,7;m0 7,7,0,0,0;").told(11), 14);
    }

    /** The same where it is below 0 everywhere. */
    private static void tenderBelowNought() {
        TannedMen x = Check.told("t2 9;m0 0,0,0,0,0;m0 0,0,0,1,1;");
        x.in(0);
        x.in(1);
        x.month(1);
        CHECK.due("-9 and -8", x.told(11), 13);
        x.month(60);
        CHECK.due("-99 and -98", x.told(11), 13);
        x.scrape(1, 3, 1);
        CHECK.due("-99 and -98", x.told(11), 14);
        x.scrape(1, 4, 1);
        CHECK.due("-99 everywhere", x.told(11), 0);
    }

    /** '.. SOFT less THICK': not where he is softest, or thinnest, alone. */
    private static void tenderLessThick() {
        TannedMen x = Check.told("t1 1;m3 9,4,0,7,0;m0 0,0,0,0,5;");
        CHECK.due("9", x.told(11), 0);
        x.in(0);
        x.month(1);
        CHECK.due("9 less 3, 7", x.told(11), 3);
        x.month(4);
        CHECK.due("9 less 3, 7 less 3", x.told(11), 0);
        x.month(1);
        CHECK.due("9 less 6, 7 less 3, 5", x.told(11), 14);
        x.scrape(1, 4, 1);
        CHECK.due("9 less 6, 7 less 3, 4", x.told(11), 3);
    }

    /** Promise 5: '12 what is HEARD, 13 entries of THE BOOK, 14 how many can be undone', 0 to the most. */
    private static void toldHeardBookUndone() {
        TannedMen x = Check.told("t1 1;" + MAN + SAYING);
        for (int i = 0; i <= 17; i++) {
            CHECK.due("heard", x.told(12), Math.min(i, 6));
            CHECK.due("entries", x.told(13), Math.min(i, 15));
            CHECK.due("can be undone", x.told(14), Math.min(i, 16));
            x.hear(0, 0, 1);
            x.write(0, 1);
            x.bark(2);
        }
    }

    /** Promise 6: 'UNKNOWN'. */
    private static void manUnknown() {
        TannedMen six = Check.told("t1 1;" + MAN.repeat(6));
        CHECK.due("man 5 of six", six.man(5, 0), 0);
        for (int m : new int[] {Integer.MIN_VALUE, -1, 6, Integer.MAX_VALUE}) {
            CHECK.due("man " + m + " of six", six.man(m, 0), UNKNOWN);
        }
        CHECK.due("man 1 of one", Check.told("t1 1;" + MAN).man(1, 0), UNKNOWN);
        CHECK.due("man 0 of none", Check.told("t1 1;").man(0, 0), UNKNOWN);
        CHECK.due("man 0, no yard", new TannedMen().man(0, 0), UNKNOWN);
    }

    /** Promise 6: 'OUTSIDE'. */
    private static void manOutside() {
        TannedMen x = Check.told("t1 1;" + MAN + SAYING);
        for (int what : new int[] {Integer.MIN_VALUE, -1, 5, 6, Integer.MAX_VALUE}) {
            CHECK.due("what " + what, x.man(0, what), OUTSIDE);
        }
        int[] due = {0, 0, 0, 1, 1};
        for (int what = 0; what <= 4; what++) {
            CHECK.due("what " + what, x.man(0, what), due[what]);
        }
    }

    /** 'BEARS it, if it is 5 or less.' */
    private static void manBorneAtFive() {
        TannedMen x = Check.told("t1 1;m0 2,0,0,0,0;s0 2;s0 3;s0 4;s0 5;");
        CHECK.due("hurts of 4, 5, 6, 7", x.man(0, 3), 1 + 2);
        x.scrape(0, 0, 1);
        CHECK.due("hurts of 3, 4, 5, 6", x.man(0, 3), 1 + 2 + 4);
        x.in(0);
        x.month(1);
        CHECK.due("hurts of 2, 3, 4, 5", x.man(0, 3), 15);
    }

    /** 'He FEELS it, if that is 1 or more'. */
    private static void manFeltAtOne() {
        TannedMen x = Check.told("t1 1;m0 0,0,0,0,0;s0 1;s0 2;s0 3;");
        CHECK.due("hurts of 1, 2, 3", x.man(0, 4), 7);
        x.in(0);
        x.month(1);
        CHECK.due("hurts of 0, 1, 2", x.man(0, 4), 2 + 4);
        x.month(1);
        CHECK.due("hurts of 0, 0, 1", x.man(0, 4), 4);
        x.month(1);
        CHECK.due("hurts of 0", x.man(0, 4), 0);
    }

    /** Promise 6: 'SETS of SAYINGS', of none, of all eight. */
    private static void manSetsOfAllAndNone() {
        TannedMen none = Check.told("t1 1;" + MAN);
        CHECK.due("no sayings: bears", none.man(0, 3), 0);
        CHECK.due("no sayings: feels", none.man(0, 4), 0);
        TannedMen light = Check.told("t1 1;" + MAN + "s0 5;".repeat(8));
        CHECK.due("all: bears", light.man(0, 3), 255);
        CHECK.due("all: feels", light.man(0, 4), 255);
        TannedMen sharp = Check.told("t1 1;" + MAN + "s0 6;".repeat(7) + "s1 5;");
        CHECK.due("the last alone: bears", sharp.man(0, 3), 128);
    }

    /** Promise 7: 'a PLACE (0 .. 4): what = 0 SOFT, 1 THICK. UNKNOWN, OUTSIDE.' */
    private static void skinBounds() {
        TannedMen x = Check.told("t1 7;m0 30,1,2,3,0;");
        x.in(0);
        x.month(1);
        CHECK.due("place 0, soft", x.skin(0, 0, 0), 30);
        CHECK.due("place 0, thick", x.skin(0, 0, 1), 7);
        CHECK.due("place 4, soft", x.skin(0, 4, 0), 0);
        CHECK.due("place 4, thick", x.skin(0, 4, 1), 7);
        for (int off : new int[] {Integer.MIN_VALUE, -1, 5, Integer.MAX_VALUE}) {
            CHECK.due("place " + off, x.skin(0, off, 0), OUTSIDE);
            CHECK.due("what " + off, x.skin(0, 0, off), OUTSIDE);
            CHECK.due("man " + off, x.skin(off, 0, 0), UNKNOWN);
        }
        CHECK.due("what 2", x.skin(0, 0, 2), OUTSIDE);
        CHECK.due("man 1", x.skin(1, 0, 0), UNKNOWN);
    }

    /** Promise 8: 'what = 0 PLACE, 1 SHARP. UNKNOWN, OUTSIDE.' */
    private static void sayingBounds() {
        TannedMen x = Check.told("t1 7;s0 1;s1 2;s2 3;s3 4;s4 5;s0 6;s1 59;s4 60;");
        CHECK.due("place of the first", x.saying(0, 0), 0);
        CHECK.due("sharp of the first", x.saying(0, 1), 1);
        CHECK.due("place of the last", x.saying(7, 0), 4);
        CHECK.due("sharp of the last", x.saying(7, 1), 60);
        for (int off : new int[] {Integer.MIN_VALUE, -1, 8, Integer.MAX_VALUE}) {
            CHECK.due("saying " + off, x.saying(off, 0), UNKNOWN);
            CHECK.due("what " + off, x.saying(0, off), OUTSIDE);
        }
        CHECK.due("what 2", x.saying(0, 2), OUTSIDE);
        CHECK.due("saying 1 of one", Check.told("t1 7;s0 1;").saying(1, 0), UNKNOWN);
        CHECK.due("saying 0 of none", Check.told("t1 7;").saying(0, 0), UNKNOWN);
    }

    /** 'HURT .. SHARP, and how SOFT he is in its PLACE': 90 at most, 1 at least for the thin. */
    private static void hurtMost() {
        TannedMen x = Check.told("t1 1;m0 30,0,0,0,30;m0 0,0,0,0,0;s0 60;s4 60;s2 1;s4 1;");
        CHECK.due("60 and 30", x.hurt(0, 0), 90);
        CHECK.due("60 and 30, the last place", x.hurt(0, 1), 90);
        CHECK.due("1 and 30", x.hurt(0, 3), 31);
        CHECK.due("60 and 0", x.hurt(1, 1), 60);
        CHECK.due("1 and 0", x.hurt(1, 2), 1);
    }

    /** '.. less how THICK he is there (0 at least)'. */
    private static void hurtNoughtAtLeast() {
        TannedMen x = Check.told("t1 3;m0 1,0,0,0,30;s0 6;s4 60;");
        int[] due = {7, 4, 1, 0, 0, 0};
        x.in(0);
        for (int n = 0; n < due.length; n++) {
            CHECK.due("behind " + n + " months", x.hurt(0, 0), due[n]);
            x.month(1);
        }
        x.bark(9);
        x.month(60);
        CHECK.due("90 less 99", x.hurt(0, 1), 0);
    }

    /** Promise 9: 'UNKNOWN'. */
    private static void hurtUnknown() {
        TannedMen x = Check.told("t1 1;" + MAN.repeat(6) + SAYING.repeat(8));
        CHECK.due("the last of both", x.hurt(5, 7), 1);
        for (int off : new int[] {Integer.MIN_VALUE, -1, 8, Integer.MAX_VALUE}) {
            CHECK.due("man " + off, x.hurt(off, 0), UNKNOWN);
            CHECK.due("saying " + off, x.hurt(0, off), UNKNOWN);
        }
        CHECK.due("man 6", x.hurt(6, 7), UNKNOWN);
        CHECK.due("no sayings", Check.told("t1 1;" + MAN).hurt(0, 0), UNKNOWN);
        CHECK.due("no men", Check.told("t1 1;" + SAYING).hurt(0, 0), UNKNOWN);
    }

    /** 'An object is used for at most 512 calls': the 512th is as good as the first. */
    private static void call512() {
        String text = "t1 1;" + MAN + SAYING;
        TannedMen x = Check.told(text);
        int calls = text.length() + 1;
        while (calls < 510) {
            x.bark(1 + calls % 9);
            calls++;
        }
        CHECK.due("call 511", x.month(60), 60);
        CHECK.due("call 512", x.undo(), 15);
    }
}
