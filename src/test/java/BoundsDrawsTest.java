/** BY DRAWS, THE SEED, IMAGES and promises 31 to 33 at their bounds: a method for each sentence, which it quotes. */
public final class BoundsDrawsTest {
    private static final Check CHECK = new Check("BoundsDrawsTest");
    private static final int UNKNOWN = TannedMen.UNKNOWN;
    private static final int OUTSIDE = TannedMen.OUTSIDE;
    private static final int NOT = TannedMen.NOT;
    private static final int DOWN = 0;
    private static final int UP = 1;
    private static final int SAID = 2;
    private static final int SCRAPED = 3;
    private static final int NOTHING = 4;
    private static final String MAN = "m0 0,0,0,0,0;";
    private static final String SOFT = "m0 1,1,1,1,1;";

    public static void main(String[] args) {
        seedAtFirst();
        seedBounds();
        seedLeftOver();
        drawOfEachDeed();
        noMenNoDraw();
        oneManIsDrawn();
        downIfHeCanBe();
        downNotIfInOrFull();
        upIfIn();
        saidIfThereAreSayings();
        scrapedIfSoft();
        scrapedNotIfNotSoft();
        nothingOnFour();
        aheadOfEachMonth();
        keepEachImage();
        keepUnknown();
        keepAgain();
        keepLeavesNothingToUndo();
        goBackNot();
        goBackToAllOfSectionTwo();
        goBackOfSixMen();
        goBackToTheSeed();
        goBackLeavesHeardAndBook();
        goBackLeavesNothingToUndo();
        goBackAgain();
        imagesGoneByYard();
        imagesWithoutYard();
        CHECK.end();
    }

    // ---- the seed, draws

    /** 'THE SEED (0 at first ..)'. */
    private static void seedAtFirst() {
        CHECK.due("new", new TannedMen().seed(0), 0);
        CHECK.due("a yard", Check.told("t1 1;" + MAN).seed(9), 0);
    }

    /** Promise 31: 'THE SEED becomes v (0 .. 2147483647): what it was. OUTSIDE.' */
    private static void seedBounds() {
        TannedMen x = new TannedMen();
        CHECK.due("seed(1)", x.seed(1), 0);
        CHECK.due("seed(2147483647)", x.seed(2147483647), 1);
        CHECK.due("seed(-1)", x.seed(-1), OUTSIDE);
        CHECK.due("seed(least)", x.seed(Integer.MIN_VALUE), OUTSIDE);
        CHECK.due("seed(0)", x.seed(0), 2147483647);
        CHECK.due("seed(2147483646)", x.seed(2147483646), 0);
        CHECK.due("seed(0)", x.seed(0), 2147483646);
    }

    private static int seedBehind(String text, int seed, int months) {
        TannedMen x = Check.told(text);
        x.seed(seed);
        x.drift(months);
        return x.seed(0);
    }

    /** 'it times 1103515245 and 12345, left over by 2 to the 31', from its least, its greatest, a bit alone. */
    private static void seedLeftOver() {
        CHECK.due("from 0, two draws", seedBehind("t1 1;" + MAN, 0, 1), 1406932606);
        CHECK.due("from 1, three draws", seedBehind("t1 1;" + MAN, 1, 1), 662824084);
        CHECK.due("from 2147483647, two draws", seedBehind("t1 1;" + MAN, 2147483647, 1), 288979989);
        CHECK.due("from 2 to the 30, two draws", seedBehind("t1 1;" + MAN, 1073741824, 1), 333190782);
        for (int seed : new int[] {0, 2147483647, 1 << 30, 65535, 65536}) {
            TannedMen x = Check.told("t1 1;" + MAN);
            x.seed(seed);
            for (int i = 0; i < 20; i++) {
                x.drift(60);
                int then = x.seed(0);
                CHECK.holds("never below 0: " + then, then >= 0);
                x.seed(then);
            }
        }
    }

    /** 'the DRAW of n is it / 65536, left over by n': of MEN the first and the last, of deeds each. */
    private static void drawOfEachDeed() {
        for (int m = 0; m < 6; m++) {
            TannedMen x = Check.told("t3 1;" + MAN.repeat(6));
            x.seed(Seeds.drawing(5, DOWN, 6, m));
            x.drift(1);
            CHECK.due("man " + m + " is let down", x.told(6), 1 << m);
        }
        for (int s = 0; s < 8; s++) {
            TannedMen x = Check.told("t1 1;" + MAN + "s0 1;s0 2;s0 3;s0 4;s0 5;s0 6;s0 7;s0 8;");
            x.seed(Seeds.drawing(5, SAID, 1, 0, 8, s));
            x.drift(1);
            CHECK.due("saying " + s + " is said", x.man(0, 2), s + 1);
        }
        for (int p = 0; p < 5; p++) {
            TannedMen x = Check.told("t1 1;" + SOFT);
            x.seed(Seeds.drawing(5, SCRAPED, 1, 0, 5, p));
            x.drift(1);
            for (int q = 0; q < 5; q++) {
                CHECK.due("place " + p + " is scraped, " + q, x.skin(0, q, 0), q == p ? 0 : 1);
            }
            CHECK.due("glue", x.told(7), 1);
        }
    }

    /** 'ahead of each, if there are MEN, a DRAW': else none. */
    private static void noMenNoDraw() {
        CHECK.due("no men", seedBehind("t1 1;", 5, 60), 5);
        CHECK.due("no men, sayings", seedBehind("t1 1;s0 1;", 5, 60), 5);
    }

    /** 'a DRAW of 5, of MEN': two, where there is one man, too. */
    private static void oneManIsDrawn() {
        int seed = Seeds.drawing(5, NOTHING, 1, 0);
        CHECK.due("one man", seedBehind("t1 1;" + MAN, seed, 1), Seeds.behind(seed, 2));
        CHECK.due("six men", seedBehind("t1 1;" + MAN.repeat(6), seed, 1), Seeds.behind(seed, 2));
    }

    /** 'on 0 he is LET DOWN, if he can be': into the last PIT that is free. */
    private static void downIfHeCanBe() {
        for (int pits = 1; pits <= 3; pits++) {
            TannedMen x = Check.told("t" + pits + " 2;" + MAN.repeat(4));
            for (int m = 0; m < pits - 1; m++) {
                x.in(m);
            }
            x.seed(Seeds.drawing(5, DOWN, 4, 3));
            x.drift(1);
            CHECK.due("he is in, of " + pits, x.man(3, 1), 1);
            CHECK.due("the month counts for him", x.skin(3, 0, 1), 2);
        }
    }

    /** The same if he is in, or no PIT is free: nothing. */
    private static void downNotIfInOrFull() {
        TannedMen in = Check.told("t3 2;" + MAN.repeat(2));
        in.in(1);
        in.seed(Seeds.drawing(5, DOWN, 2, 1));
        in.drift(1);
        CHECK.due("in as he was", in.told(6), 2);
        CHECK.due("a month", in.skin(1, 0, 1), 2);
        for (int pits = 1; pits <= 3; pits++) {
            TannedMen full = Check.told("t" + pits + " 2;" + MAN.repeat(4));
            for (int m = 0; m < pits; m++) {
                full.in(m);
            }
            int seed = Seeds.drawing(5, DOWN, 4, 3);
            full.seed(seed);
            full.drift(1);
            CHECK.due("no pit is free, of " + pits, full.told(6), (1 << pits) - 1);
            CHECK.due("no month for him", full.skin(3, 0, 1), 0);
            CHECK.due("two draws", full.seed(0), Seeds.behind(seed, 2));
        }
    }

    /** 'on 1 DRAWN UP, if he is in'. */
    private static void upIfIn() {
        int seed = Seeds.drawing(5, UP, 2, 1);
        TannedMen x = Check.told("t3 2;" + MAN.repeat(2));
        x.in(0);
        x.in(1);
        x.seed(seed);
        x.drift(1);
        CHECK.due("he is out, the other in", x.told(6), 1);
        CHECK.due("the month counts for him no more", x.skin(1, 0, 1), 0);
        CHECK.due("for the other it does", x.skin(0, 0, 1), 2);
        TannedMen y = Check.told("t3 2;" + MAN.repeat(2));
        y.in(0);
        y.seed(seed);
        y.drift(1);
        CHECK.due("he was not in", y.told(6), 1);
        CHECK.due("two draws", y.seed(0), Seeds.behind(seed, 2));
    }

    /** 'on 2, if there are SAYINGS, a DRAW of these is SAID of him': else no draw. */
    private static void saidIfThereAreSayings() {
        int seed = Seeds.drawing(5, SAID, 1, 0);
        CHECK.due("none: two draws", seedBehind("t1 1;" + MAN, seed, 1), Seeds.behind(seed, 2));
        CHECK.due("one: three draws", seedBehind("t1 1;" + MAN + "s0 1;", seed, 1), Seeds.behind(seed, 3));
        CHECK.due("eight: three draws", seedBehind("t1 1;" + MAN + "s0 1;".repeat(8), seed, 1), Seeds.behind(seed, 3));
        TannedMen x = Check.told("t1 9;" + MAN + "s0 9;");
        x.in(0);
        x.seed(seed);
        x.drift(1);
        CHECK.due("ahead of the month", x.man(0, 2), 9);
        x.seed(seed);
        x.drift(1);
        CHECK.due("a hurt of 0", x.man(0, 2), 9);
    }

    /** 'on 3 he is SCRAPED in a DRAW of 5 PLACES by 1, if he is SOFT there': the last of it. */
    private static void scrapedIfSoft() {
        int seed = Seeds.drawing(5, SCRAPED, 2, 1, 5, 4);
        TannedMen x = Check.told("t1 1;" + SOFT + "m0 0,0,0,0,2;");
        for (int left = 1; left >= 0; left--) {
            x.seed(seed);
            x.drift(1);
            CHECK.due("soft", x.skin(1, 4, 0), left);
            CHECK.due("glue", x.told(7), 2 - left);
        }
    }

    /** The same where he is not SOFT: nothing, but the place was drawn. */
    private static void scrapedNotIfNotSoft() {
        int seed = Seeds.drawing(5, SCRAPED, 2, 1, 5, 4);
        TannedMen x = Check.told("t1 1;" + SOFT + "m0 1,1,1,1,0;");
        x.seed(seed);
        x.drift(1);
        CHECK.due("soft", x.skin(1, 4, 0), 0);
        CHECK.due("soft elsewhere", x.skin(1, 3, 0), 1);
        CHECK.due("the other", x.skin(0, 4, 0), 1);
        CHECK.due("glue", x.told(7), 0);
        CHECK.due("three draws", x.seed(0), Seeds.behind(seed, 3));
    }

    /** On 4 nothing. */
    private static void nothingOnFour() {
        TannedMen x = Check.told("t1 2;" + SOFT + SOFT + "s0 9;");
        x.in(0);
        x.seed(Seeds.drawing(5, NOTHING, 2, 0));
        x.drift(1);
        TannedMen y = Check.told("t1 2;" + SOFT + SOFT + "s0 9;");
        y.in(0);
        y.month(1);
        CHECK.holds("as a month", Check.seen(x).equals(Check.seen(y)));
    }

    /** 'n MONTHS: ahead of each ..'. */
    private static void aheadOfEachMonth() {
        TannedMen x = Check.told("t1 2;" + MAN);
        x.seed(Seeds.drawing(5, DOWN, 1, 0, 5, NOTHING, 1, 0, 5, UP, 1, 0));
        CHECK.due("drift(3)", x.drift(3), 3);
        CHECK.due("two months in", x.skin(0, 0, 1), 4);
        CHECK.due("he is out", x.man(0, 1), 0);
        CHECK.due("one thing to undo", x.undo(), 0);
        CHECK.due("as ahead of it", x.skin(0, 0, 1), 0);
    }

    // ---- promise 32

    private static TannedMen yard() {
        return Check.told("t2 4;m0 3,0,9,1,2;m2 5,5,5,5,5;s0 12;");
    }

    /** 'IMAGES 0, 1 keep ..': each by itself. */
    private static void keepEachImage() {
        TannedMen x = yard();
        CHECK.due("keep(0)", x.keep(0), 1);
        x.month(5);
        CHECK.due("keep(1)", x.keep(1), 1);
        x.month(5);
        CHECK.due("goBack(0)", x.goBack(0), 1);
        CHECK.due("months", x.told(5), 0);
        CHECK.due("goBack(1)", x.goBack(1), 1);
        CHECK.due("months", x.told(5), 5);
        CHECK.due("goBack(0)", x.goBack(0), 1);
        CHECK.due("months", x.told(5), 0);
    }

    /** Promises 32, 33: 'UNKNOWN': an IMAGE that there is not. */
    private static void keepUnknown() {
        TannedMen x = yard();
        x.keep(0);
        x.keep(1);
        for (int i : new int[] {Integer.MIN_VALUE, -32, -1, 2, 3, 32, 33, Integer.MAX_VALUE}) {
            CHECK.due("keep(" + i + ")", x.keep(i), UNKNOWN);
            CHECK.due("goBack(" + i + ")", x.goBack(i), UNKNOWN);
        }
    }

    /** 'IMAGE i becomes what is so': the latest counts. */
    private static void keepAgain() {
        TannedMen x = yard();
        x.seed(1);
        x.keep(1);
        x.month(5);
        x.seed(2);
        x.keep(1);
        x.month(5);
        x.goBack(1);
        CHECK.due("months", x.told(5), 5);
        CHECK.due("seed", x.seed(0), 2);
        CHECK.due("the other was not kept", x.goBack(0), NOT);
    }

    /** '(nothing can be undone then)'. */
    private static void keepLeavesNothingToUndo() {
        TannedMen x = yard();
        for (int i = 0; i < 17; i++) {
            x.month(1);
        }
        x.keep(0);
        CHECK.due("can be undone", x.told(14), 0);
        CHECK.due("undo()", x.undo(), NOT);
        CHECK.due("months", x.told(5), 17);
        x.month(1);
        CHECK.due("what comes then can", x.undo(), 0);
        CHECK.due("no further", x.undo(), NOT);
        CHECK.due("months", x.told(5), 17);
    }

    // ---- promise 33

    /** 'NOT: it was not kept.' */
    private static void goBackNot() {
        TannedMen x = yard();
        CHECK.due("goBack(0)", x.goBack(0), NOT);
        CHECK.due("goBack(1)", x.goBack(1), NOT);
        x.keep(1);
        CHECK.due("goBack(0)", x.goBack(0), NOT);
        CHECK.due("goBack(1)", x.goBack(1), 1);
        x.keep(0);
        CHECK.due("goBack(0)", x.goBack(0), 1);
    }

    /** 'What is so becomes IMAGE i': all of section 2. */
    private static void goBackToAllOfSectionTwo() {
        for (int i = 0; i <= 1; i++) {
            TannedMen x = yard();
            x.in(1);
            x.month(3);
            x.scrape(0, 2, 4);
            x.say(0, 0);
            x.bark(7);
            x.keep(i);
            String kept = Check.seen(x);
            x.in(0);
            x.out(1);
            x.month(60);
            x.scrape(1, 4, 5);
            x.say(0, 1);
            x.bark(1);
            CHECK.due("goBack(" + i + ")", x.goBack(i), 1);
            CHECK.holds("all is as kept: " + i, kept.equals(Check.seen(x)));
            x.month(1);
            CHECK.due("it goes on from there", x.told(5), 4);
            CHECK.due("it goes on from there", x.skin(1, 3, 1), 1);
        }
    }

    /** The same of each of six men. */
    private static void goBackOfSixMen() {
        TannedMen x = Check.told("t3 1;" + "m0 1,2,3,4,5;".repeat(6) + "s0 1;");
        x.in(1);
        x.in(5);
        x.month(1);
        x.keep(1);
        String kept = Check.seen(x);
        x.month(1);
        for (int m = 0; m < 6; m++) {
            x.say(0, m);
            x.scrape(m, 4, m % 5 + 1);
        }
        x.goBack(1);
        CHECK.holds("as kept", kept.equals(Check.seen(x)));
    }

    /** '.. THE SEED': the least and the greatest. */
    private static void goBackToTheSeed() {
        TannedMen x = yard();
        x.seed(2147483647);
        x.keep(0);
        x.seed(0);
        x.keep(1);
        x.seed(5);
        x.goBack(0);
        CHECK.due("of image 0", x.seed(5), 2147483647);
        x.goBack(1);
        CHECK.due("of image 1", x.seed(5), 0);
    }

    /** HEARD and THE BOOK are none of section 2: they stay, as THE TEXT does. */
    private static void goBackLeavesHeardAndBook() {
        TannedMen x = yard();
        x.hear(0, 0, 15);
        x.keep(0);
        x.hear(0, 0, 11);
        x.write(1, 1);
        Check.feed(x, "t1");
        x.goBack(0);
        CHECK.due("heard", x.told(12), 2);
        CHECK.due("stays", x.stays(0, 0), 0);
        CHECK.due("entries", x.told(13), 1);
        CHECK.due("letters", x.told(4), 2);
        x.tear();
        x.goBack(0);
        CHECK.due("heard", x.told(12), 0);
        CHECK.due("entries", x.told(13), 0);
    }

    /** '(nothing can be undone then)'. */
    private static void goBackLeavesNothingToUndo() {
        TannedMen x = yard();
        x.keep(0);
        for (int i = 0; i < 17; i++) {
            x.month(1);
        }
        x.goBack(0);
        CHECK.due("can be undone", x.told(14), 0);
        CHECK.due("undo()", x.undo(), NOT);
        x.month(1);
        CHECK.due("what comes then can", x.undo(), 0);
        CHECK.due("months", x.told(5), 0);
    }

    /** An image stays as it was kept, whatever is done behind a goBack(). */
    private static void goBackAgain() {
        TannedMen x = yard();
        x.in(1);
        x.keep(0);
        for (int i = 0; i < 3; i++) {
            CHECK.due("goBack(0)", x.goBack(0), 1);
            CHECK.due("months", x.told(5), 0);
            CHECK.due("who is in", x.told(6), 2);
            CHECK.due("thick", x.skin(1, 0, 1), 0);
            x.month(6);
            x.out(1);
        }
    }

    /** Promise 3: 'IMAGES .. are gone' by a yard, not by a fault. */
    private static void imagesGoneByYard() {
        TannedMen x = yard();
        x.keep(0);
        x.keep(1);
        Check.feed(x, "t9");
        x.yard();
        CHECK.due("a fault", x.goBack(0), 1);
        CHECK.due("a fault", x.goBack(1), 1);
        Check.feed(x, "t1 1;");
        x.yard();
        CHECK.due("a yard", x.goBack(0), NOT);
        CHECK.due("a yard", x.goBack(1), NOT);
    }

    /** Neither promise has a NOT for 'no YARD'. */
    private static void imagesWithoutYard() {
        TannedMen x = new TannedMen();
        x.seed(3);
        CHECK.due("keep(1)", x.keep(1), 1);
        x.seed(4);
        CHECK.due("goBack(1)", x.goBack(1), 1);
        CHECK.due("the seed", x.seed(0), 3);
        CHECK.due("no yard", x.month(1), NOT);
        CHECK.due("goBack(0)", x.goBack(0), NOT);
        Check.feed(x, "t1 1;" + MAN);
        CHECK.due("yard()", x.yard(), 1);
        CHECK.due("an image of no yard is gone by a yard", x.goBack(1), NOT);
    }
}
