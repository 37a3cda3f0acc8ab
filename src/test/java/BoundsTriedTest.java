/** Section 3's trials and promises 18 to 24 at their bounds: a method for each sentence, which it quotes. */
public final class BoundsTriedTest {
    private static final Check CHECK = new Check("BoundsTriedTest");
    private static final int NONE = TannedMen.NONE;
    private static final int UNKNOWN = TannedMen.UNKNOWN;
    private static final int OUTSIDE = TannedMen.OUTSIDE;
    private static final int NOT = TannedMen.NOT;
    private static final int BILLION = 1000000000;
    private static final String MAN = "m0 0,0,0,0,0;";
    private static final String POET = "m2 0,0,0,0,0;";
    private static final String SMOKED = "m1 0,0,0,0,0;";
    private static final String OLD = "m3 0,0,0,0,0;";

    public static void main(String[] args) {
        nothingChanges();
        thickNoMonths();
        thickMostMonths();
        thickToNinetyNine();
        thickFromNow();
        thickOfOneWhoIsNotIn();
        thickOutside();
        whenAlready();
        whenAtLast();
        whenNever();
        whenAtFive();
        whenOfEachSaying();
        feltNowAlone();
        feltAtLast();
        feltNever();
        feltAtOne();
        whenRefused();
        edgeOfNoSayings();
        edgeNone();
        edgeOneAlone();
        edgeSets();
        edgeRefused();
        scrapingNone();
        scrapingByAllHeHas();
        scrapingFromSix();
        scrapingOfOnePlace();
        scrapingRefused();
        throughNoMonths();
        throughMostMonths();
        throughNever();
        throughJustWithin();
        throughEachPit();
        throughLeastSet();
        throughMostMen();
        throughEmptyPits();
        throughNeedFromNow();
        throughNobody();
        throughRefused();
        overLike();
        overMorePlaces();
        overRefused();
        quietBounds();
        quietCutEach();
        quietOutside();
        CHECK.end();
    }

    private static TannedMen passed(String text, int months) {
        TannedMen x = Check.told(text);
        x.in(0);
        if (months > 0) {
            x.month(months);
        }
        return x;
    }

    /** 'TRIED from now; nothing changes by it.' */
    private static void nothingChanges() {
        Check.Making making = () -> {
            TannedMen x = Check.told("t1 4;m2 3,0,9,1,2;m3 5,5,5,5,5;s0 12;s3 60;");
            x.in(1);
            x.month(3);
            x.keep(0);
            x.say(0, 0);
            x.hear(0, 0, 12);
            x.hear(1, 1, 9);
            x.write(0, 7);
            x.seed(3);
            Check.feed(x, "t2");
            return x;
        };
        Check.Call[] trials = {
            x -> x.thick(0, 0, 200), x -> x.thick(1, 4, 200), x -> x.when(0, 1, 0), x -> x.when(1, 1, 1),
            x -> x.edge(0, 3, 1, 0), x -> x.edge(1, 1, 2, 2), x -> x.scraping(0, 3), x -> x.scraping(1, 1),
            x -> x.through(200, 0), x -> x.through(200, 1), x -> x.over(0, 1), x -> x.quiet(60, 99),
            x -> x.stays(0, 0), x -> x.stays(1, 2), x -> x.ask(0), x -> x.ask(1), x -> x.judge(),
            x -> x.told(9), x -> x.told(10), x -> x.told(11), x -> x.hurt(0, 0), x -> x.man(0, 3)
        };
        for (int i = 0; i < trials.length; i++) {
            CHECK.leavesAll("trial " + i, making, trials[i], trials[i].on(making.make()));
        }
    }

    // ---- promise 18

    /** 'THICK of a MAN in a PLACE behind n MONTHS (0 .. 200)': behind none, as he is. */
    private static void thickNoMonths() {
        for (int kind = 0; kind <= 3; kind++) {
            TannedMen x = passed("t1 3;m" + kind + " 0,0,0,0,0;", 7);
            for (int p = 0; p < 5; p++) {
                CHECK.due("kind " + kind + ", place " + p, x.thick(0, p, 0), x.skin(0, p, 1));
            }
        }
        CHECK.due("at first", Check.told("t1 9;" + MAN).thick(0, 4, 0), 0);
    }

    /** The same behind 200. */
    private static void thickMostMonths() {
        TannedMen x = Check.told("t1 1;" + POET + MAN + SMOKED + OLD);
        for (int p = 0; p < 5; p++) {
            CHECK.due("a poet, place " + p, x.thick(0, p, 200), 40);
            CHECK.due("public, place " + p, x.thick(1, p, 200), 99);
            CHECK.due("smoked, place " + p, x.thick(2, p, 200), p == 2 ? 0 : 99);
            CHECK.due("old, place " + p, x.thick(3, p, 200), 99);
        }
        CHECK.due("a poet behind 199, the last place", x.thick(0, 4, 199), 39);
        CHECK.due("a poet behind 199, the one ahead of it", x.thick(0, 3, 199), 40);
    }

    /** '.. THICK by 0 to 99', tried, too. */
    private static void thickToNinetyNine() {
        TannedMen x = Check.told("t1 7;" + MAN + OLD + SMOKED);
        CHECK.due("14 times 7", x.thick(0, 0, 14), 98);
        CHECK.due("15 times 7", x.thick(0, 0, 15), 99);
        CHECK.due("16 times 7", x.thick(0, 0, 16), 99);
        CHECK.due("old: 4 times 21", x.thick(1, 0, 16), 84);
        CHECK.due("old: 5 times 21", x.thick(1, 0, 21), 99);
        CHECK.due("old: place 1 is the next", x.thick(1, 1, 21), 84);
        CHECK.due("old: not place 0 again", x.thick(1, 1, 22), 99);
        CHECK.due("smoked: 24 times 4", x.thick(2, 4, 24), 96);
        CHECK.due("smoked: 25 times 4", x.thick(2, 4, 25), 99);
    }

    /** '.. from now': by BARK, MONTHS, THICK that are now. */
    private static void thickFromNow() {
        TannedMen x = passed("t1 4;" + POET, 8);
        // months 0 to 7 made him 2, 2, 2, 1, 1; the next is for place 3
        CHECK.due("place 3 behind 1", x.thick(0, 3, 1), 2);
        CHECK.due("place 4 behind 1", x.thick(0, 4, 1), 1);
        CHECK.due("place 4 behind 2", x.thick(0, 4, 2), 2);
        CHECK.due("place 0 behind 2", x.thick(0, 0, 2), 2);
        CHECK.due("place 0 behind 3, round again", x.thick(0, 0, 3), 3);
        TannedMen y = passed("t1 4;" + MAN, 2);
        CHECK.due("bark 4", y.thick(0, 0, 3), 20);
        y.bark(1);
        CHECK.due("bark 1", y.thick(0, 0, 3), 11);
    }

    /** 'if he is in a PIT all the time, from now': whether he is in now, or one is free, or not. */
    private static void thickOfOneWhoIsNotIn() {
        TannedMen x = Check.told("t1 4;" + MAN + MAN);
        CHECK.due("not in", x.thick(0, 0, 5), 20);
        x.in(0);
        CHECK.due("in", x.thick(0, 0, 5), 20);
        CHECK.due("no pit is free", x.thick(1, 0, 5), 20);
        CHECK.due("who is in", x.told(6), 1);
    }

    /** Promise 18: 'UNKNOWN, OUTSIDE.' */
    private static void thickOutside() {
        TannedMen x = Check.told("t1 4;" + MAN);
        for (int n : new int[] {Integer.MIN_VALUE, -1, 201, Integer.MAX_VALUE}) {
            CHECK.due("months " + n, x.thick(0, 0, n), OUTSIDE);
        }
        for (int p : new int[] {Integer.MIN_VALUE, -1, 5, Integer.MAX_VALUE}) {
            CHECK.due("place " + p, x.thick(0, p, 0), OUTSIDE);
        }
        for (int m : new int[] {Integer.MIN_VALUE, -1, 1, 6, Integer.MAX_VALUE}) {
            CHECK.due("man " + m, x.thick(m, 0, 0), UNKNOWN);
        }
        CHECK.due("no yard", new TannedMen().thick(0, 0, 0), UNKNOWN);
    }

    // ---- promise 19

    /** 'WHEN so he BEARS a SAYING first: behind how many MONTHS (0 .. 200)': behind none. */
    private static void whenAlready() {
        CHECK.due("5", Check.told("t1 1;" + MAN + "s0 5;").when(0, 0, 0), 0);
        CHECK.due("1", Check.told("t1 1;" + MAN + "s0 1;").when(0, 0, 0), 0);
        CHECK.due("0", passed("t1 1;" + MAN + "s0 1;", 2).when(0, 0, 0), 0);
    }

    /** The same behind 200: a poet is 40 thick in place 4 then, 39 a month ahead. */
    private static void whenAtLast() {
        CHECK.due("45", Check.told("t1 1;" + POET + "s4 45;").when(0, 0, 0), 200);
        CHECK.due("44", Check.told("t1 1;" + POET + "s4 44;").when(0, 0, 0), 195);
        CHECK.due("45 in place 0", Check.told("t1 1;" + POET + "s0 45;").when(0, 0, 0), 196);
    }

    /** '.. NONE'. */
    private static void whenNever() {
        CHECK.due("a poet, at 46", Check.told("t1 1;" + POET + "s4 46;").when(0, 0, 0), NONE);
        CHECK.due("a poet, at 46 in place 0", Check.told("t1 1;" + POET + "s0 46;").when(0, 0, 0), NONE);
        CHECK.due("smoked, place 2", Check.told("t1 9;" + SMOKED + "s2 6;").when(0, 0, 0), NONE);
    }

    /** 'BEARS it, if it is 5 or less', tried, too. */
    private static void whenAtFive() {
        int[] due = {0, 1, 2, 3};
        for (int sharp = 5; sharp <= 8; sharp++) {
            CHECK.due("by 1 from " + sharp, Check.told("t1 1;" + MAN + "s0 " + sharp + ";").when(0, 0, 0), due[sharp - 5]);
        }
        CHECK.due("90 by 1", Check.told("t1 1;m0 0,0,0,0,30;s4 60;").when(0, 0, 0), 85);
        CHECK.due("90 by 9", Check.told("t1 9;m0 0,0,0,0,30;s4 60;").when(0, 0, 0), 10);
        CHECK.due("14 by 9", Check.told("t1 9;" + MAN + "s4 14;").when(0, 0, 0), 1);
        CHECK.due("15 by 9", Check.told("t1 9;" + MAN + "s4 15;").when(0, 0, 0), 2);
    }

    /** The same of the first saying, of the last, of those between. */
    private static void whenOfEachSaying() {
        TannedMen x = Check.told("t1 1;" + MAN + "s0 5;s1 6;s2 7;s3 8;s4 9;s0 10;s1 11;s2 12;");
        for (int s = 0; s < 8; s++) {
            CHECK.due("saying " + s + " is borne", x.when(0, s, 0), s);
            CHECK.due("saying " + s + " is felt", x.when(0, s, 1), s + 4);
        }
    }

    /** 'FELT so last: behind how many of 0 to 200 MONTHS he FEELS a SAYING the last time': behind none. */
    private static void feltNowAlone() {
        CHECK.due("9 by 9", Check.told("t1 9;" + MAN + "s0 9;").when(0, 0, 1), 0);
        CHECK.due("10 by 9", Check.told("t1 9;" + MAN + "s0 10;").when(0, 0, 1), 1);
        CHECK.due("1 by 1", Check.told("t1 1;" + MAN + "s0 1;").when(0, 0, 1), 0);
    }

    /** The same behind 200. */
    private static void feltAtLast() {
        CHECK.due("smoked, place 2", Check.told("t1 9;" + SMOKED + "s2 1;").when(0, 0, 1), 200);
        CHECK.due("a poet, 41 less 40", Check.told("t1 1;" + POET + "s4 41;").when(0, 0, 1), 200);
        CHECK.due("a poet, 40 less 40", Check.told("t1 1;" + POET + "s4 40;").when(0, 0, 1), 199);
    }

    /** 'NONE: never'. */
    private static void feltNever() {
        CHECK.due("0 now", passed("t1 1;" + MAN + "s0 1;", 1).when(0, 0, 1), NONE);
        CHECK.due("1 now", passed("t1 1;" + MAN + "s0 2;", 1).when(0, 0, 1), 0);
        CHECK.due("far below 0", passed("t1 9;" + MAN + "s0 2;", 60).when(0, 0, 1), NONE);
    }

    /** 'He FEELS it, if that is 1 or more', tried, too. */
    private static void feltAtOne() {
        for (int sharp = 1; sharp <= 4; sharp++) {
            CHECK.due("by 1 from " + sharp, Check.told("t1 1;" + MAN + "s0 " + sharp + ";").when(0, 0, 1), sharp - 1);
        }
        CHECK.due("90 by 1", Check.told("t1 1;m0 30,0,0,0,0;s0 60;").when(0, 0, 1), 89);
    }

    /** Promise 19: 'UNKNOWN, OUTSIDE.' */
    private static void whenRefused() {
        TannedMen x = Check.told("t1 1;" + MAN + "s0 1;s0 1;");
        for (int off : new int[] {Integer.MIN_VALUE, -1, 2, Integer.MAX_VALUE}) {
            CHECK.due("what " + off, x.when(0, 0, off), OUTSIDE);
            CHECK.due("saying " + off, x.when(0, off, 0), UNKNOWN);
            CHECK.due("man " + off, x.when(off, 0, 0), UNKNOWN);
        }
        CHECK.due("man 1", x.when(1, 0, 0), UNKNOWN);
        CHECK.due("saying 1", x.when(0, 1, 0), 0);
    }

    // ---- promise 20

    private static void edges(String what, TannedMen x, int bears, int feels, int many, int least, int greatest) {
        CHECK.due(what + ": how many", x.edge(0, bears, feels, 0), many);
        CHECK.due(what + ": the least", x.edge(0, bears, feels, 1), least);
        CHECK.due(what + ": the greatest", x.edge(0, bears, feels, 2), greatest);
    }

    /** 'EDGE: numbers of MONTHS (0 .. 200)': SETS without SAYINGS leave all 201. */
    private static void edgeOfNoSayings() {
        edges("no sayings", Check.told("t1 1;" + MAN), 0, 0, 201, 0, 200);
        edges("none of eight", Check.told("t1 1;" + MAN + "s0 60;".repeat(8)), 0, 0, 201, 0, 200);
        edges("borne for ever", Check.told("t1 1;" + MAN + "s0 5;"), 1, 0, 201, 0, 200);
        edges("felt for ever", Check.told("t1 1;" + SMOKED + "s2 5;"), 0, 1, 201, 0, 200);
        edges("both", Check.told("t1 1;" + SMOKED + "s2 5;"), 1, 1, 201, 0, 200);
    }

    /** '.. how many; the least; the greatest; NONE'. */
    private static void edgeNone() {
        edges("never borne", Check.told("t1 1;" + SMOKED + "s2 6;"), 1, 0, 0, NONE, NONE);
        edges("never felt", passed("t1 1;" + MAN + "s0 1;", 1), 0, 1, 0, NONE, NONE);
        edges("borne when it is not felt", Check.told("t1 6;" + MAN + "s0 6;"), 1, 1, 0, NONE, NONE);
    }

    /** The same of one number alone: the first, one between, the last. */
    private static void edgeOneAlone() {
        edges("now alone", Check.told("t1 5;" + MAN + "s0 5;"), 1, 1, 1, 0, 0);
        edges("behind 1 alone", Check.told("t1 5;" + MAN + "s0 10;"), 1, 1, 1, 1, 1);
        edges("at last alone", Check.told("t1 1;" + POET + "s4 45;"), 1, 1, 1, 200, 200);
        edges("the last two", Check.told("t1 1;" + POET + "s3 45;"), 1, 1, 2, 199, 200);
        edges("felt now alone", Check.told("t1 9;" + MAN + "s0 9;"), 0, 1, 1, 0, 0);
        edges("not felt at last alone", Check.told("t1 1;" + POET + "s4 40;"), 0, 1, 200, 0, 199);
    }

    /** '.. BEARS all SAYINGS of a SET, and FEELS all of another one'. */
    private static void edgeSets() {
        // by 1 a month: saying s (sharp s + 5) is borne from s on, felt to s + 4
        TannedMen x = Check.told("t1 1;" + MAN + "s0 5;s0 6;s0 7;s0 8;s0 9;s0 10;s0 11;s0 12;");
        edges("all borne", x, 255, 0, 194, 7, 200);
        edges("the last borne", x, 128, 0, 194, 7, 200);
        edges("the first borne", x, 1, 0, 201, 0, 200);
        edges("all felt", x, 0, 255, 5, 0, 4);
        edges("the last felt", x, 0, 128, 12, 0, 11);
        edges("the last borne, the last felt", x, 128, 128, 5, 7, 11);
        edges("the first felt, the last borne", x, 128, 1, 0, NONE, NONE);
        edges("the fourth borne, the first felt", x, 16, 1, 1, 4, 4);
    }

    /** Promise 20: 'UNKNOWN, OUTSIDE'; UNKNOWN are 'bits of such', too. */
    private static void edgeRefused() {
        TannedMen x = Check.told("t1 1;" + MAN + "s0 5;".repeat(8));
        for (int set : new int[] {Integer.MIN_VALUE, -1, 256, 257, 511, 1 << 30, Integer.MAX_VALUE}) {
            CHECK.due("bears " + set, x.edge(0, set, 0, 0), UNKNOWN);
            CHECK.due("feels " + set, x.edge(0, 0, set, 0), UNKNOWN);
        }
        CHECK.due("all", x.edge(0, 255, 255, 0), 5);
        for (int what : new int[] {Integer.MIN_VALUE, -1, 3, Integer.MAX_VALUE}) {
            CHECK.due("what " + what, x.edge(0, 0, 0, what), OUTSIDE);
        }
        for (int m : new int[] {Integer.MIN_VALUE, -1, 1, Integer.MAX_VALUE}) {
            CHECK.due("man " + m, x.edge(m, 0, 0, 0), UNKNOWN);
        }
        CHECK.due("bit 0 of no sayings", Check.told("t1 1;" + MAN).edge(0, 1, 0, 0), UNKNOWN);
        CHECK.due("bit 1 of one saying", Check.told("t1 1;" + MAN + "s0 5;").edge(0, 0, 2, 0), UNKNOWN);
    }

    // ---- promise 21

    /** 'NONE: by none': not one more than he has. */
    private static void scrapingNone() {
        CHECK.due("35, 30 to scrape", Check.told("t1 1;m0 30,0,0,0,0;s0 5;").scraping(0, 1), 30);
        CHECK.due("36, 30 to scrape", Check.told("t1 1;m0 30,0,0,0,0;s0 6;").scraping(0, 1), NONE);
        CHECK.due("5, 0 to scrape", Check.told("t1 1;" + MAN + "s0 5;").scraping(0, 1), 0);
        CHECK.due("6, 0 to scrape", Check.told("t1 1;" + MAN + "s0 6;").scraping(0, 1), NONE);
        CHECK.due("softness elsewhere", Check.told("t1 1;m0 0,30,30,30,30;s0 6;").scraping(0, 1), NONE);
        CHECK.due("one of two by none", Check.told("t1 1;m0 0,9,0,0,0;s0 6;s1 1;").scraping(0, 3), NONE);
        CHECK.due("the other one alone", Check.told("t1 1;m0 0,9,0,0,0;s0 6;s1 1;").scraping(0, 2), 5);
    }

    /** 'the least, all PLACES together': 150 at most. */
    private static void scrapingByAllHeHas() {
        TannedMen x = Check.told("t1 1;m0 30,30,30,30,30;s0 5;s1 5;s2 5;s3 5;s4 5;");
        CHECK.due("all", x.scraping(0, 31), 150);
        CHECK.due("two", x.scraping(0, 1 + 16), 60);
        CHECK.due("of an empty set", x.scraping(0, 0), 0);
        x.in(0);
        x.month(1);
        CHECK.due("now", x.scraping(0, 31), 145);
        x.scrape(0, 0, 30);
        CHECK.due("now", x.scraping(0, 31), 116);
    }

    /** '.. to BEAR': 5 is borne, 6 is one too many. */
    private static void scrapingFromSix() {
        TannedMen x = Check.told("t1 1;m0 3,0,0,0,0;s0 1;s0 2;s0 3;s0 4;");
        CHECK.due("4", x.scraping(0, 1), 0);
        CHECK.due("5", x.scraping(0, 2), 0);
        CHECK.due("6", x.scraping(0, 4), 1);
        CHECK.due("7", x.scraping(0, 8), 2);
        TannedMen y = Check.told("t1 9;m3 0,9,0,0,0;s0 1;s1 1;");
        y.in(0);
        y.month(1);
        CHECK.due("far below 0 in a place, 10 in another", y.scraping(0, 3), 5);
    }

    /** '.. all SAYINGS of a SET': what is scraped for one in a place is scraped for the others there. */
    private static void scrapingOfOnePlace() {
        TannedMen x = Check.told("t1 1;m0 9,9,0,0,0;s0 1;s0 3;s0 2;s1 1;");
        CHECK.due("the sharpest of three", x.scraping(0, 7), 7);
        CHECK.due("and another place", x.scraping(0, 15), 12);
    }

    /** Promise 21: 'UNKNOWN', of MAN and bits. */
    private static void scrapingRefused() {
        TannedMen x = Check.told("t1 1;" + MAN + "s0 5;".repeat(8));
        for (int off : new int[] {Integer.MIN_VALUE, -1, 256, Integer.MAX_VALUE}) {
            CHECK.due("set " + off, x.scraping(0, off), UNKNOWN);
            CHECK.due("man " + off, x.scraping(off, 0), UNKNOWN);
        }
        CHECK.due("all", x.scraping(0, 255), 0);
        CHECK.due("man 1", x.scraping(1, 0), UNKNOWN);
        CHECK.due("bit 0 of no sayings", Check.told("t1 1;" + MAN).scraping(0, 1), UNKNOWN);
        CHECK.due("no sayings", Check.told("t1 1;" + MAN).scraping(0, 0), 0);
    }

    // ---- promise 22

    private static void through(String what, TannedMen x, int n, int many, int which) {
        CHECK.due(what + ": how many within " + n, x.through(n, 0), many);
        CHECK.due(what + ": which within " + n, x.through(n, 1), which);
    }

    /** 'within n MONTHS (0 .. 200)': within none, those whose NEED is 0. */
    private static void throughNoMonths() {
        through("all need none", Check.told("t1 1;" + MAN.repeat(6) + "s0 5;"), 0, 6, 63);
        through("all need one", Check.told("t3 1;" + MAN.repeat(6) + "s0 6;"), 0, 0, 0);
        through("the last needs none", Check.told("t1 1;m0 1,0,0,0,0;" + MAN + "s0 5;"), 0, 1, 2);
    }

    /** The same within 200; 'NEED .. behind how many MONTHS (0 .. 200)'. */
    private static void throughMostMonths() {
        TannedMen x = Check.told("t1 1;" + POET + "s4 45;");
        through("a need of 200", x, 200, 1, 1);
        through("a need of 200", x, 199, 0, 0);
        TannedMen two = Check.told("t1 1;" + POET + POET + "s4 45;");
        through("two of 200, a pit", two, 200, 1, 1);
        TannedMen twoPits = Check.told("t2 1;" + POET + POET + "s4 45;");
        through("two of 200, two pits", twoPits, 200, 2, 3);
        through("two of 200, two pits", twoPits, 199, 0, 0);
    }

    /** A MAN without NEED, for he never BEARS all, is not taken. */
    private static void throughNever() {
        through("a need of 201", Check.told("t3 1;" + POET + "s4 46;"), 200, 0, 0);
        through("one never, one at once", Check.told("t3 1;" + SMOKED + OLD + "s2 6;"), 200, 1, 2);
        through("all never", Check.told("t3 9;" + SMOKED.repeat(6) + "s2 6;"), 200, 0, 0);
        through("one saying of two never", Check.told("t3 9;" + SMOKED + "s0 1;s2 6;"), 200, 0, 0);
    }

    /** 'Each PIT takes MEN one behind the other, each for as many MONTHS as his NEED is .. within n'. */
    private static void throughJustWithin() {
        TannedMen x = Check.told("t1 1;m0 30,0,0,0,0;m0 30,0,0,0,0;s0 60;");
        through("85 twice", x, 84, 0, 0);
        through("85 twice", x, 85, 1, 1);
        through("85 twice", x, 169, 1, 1);
        through("85 twice", x, 170, 2, 3);
    }

    /** '.. that can be taken by all PITS'. */
    private static void throughEachPit() {
        String men = "m0 10,0,0,0,0;".repeat(6) + "s0 5;";
        for (int pits = 1; pits <= 3; pits++) {
            TannedMen x = Check.told("t" + pits + " 1;" + men);
            through("10 six times", x, 9, 0, 0);
            through("10 six times", x, 10, pits, (1 << pits) - 1);
            through("10 six times", x, 60 / pits - 1, 6 - pits, (1 << (6 - pits)) - 1);
            through("10 six times", x, 60 / pits, 6, 63);
        }
    }

    /** 'a SET of so many (of like ones the least)'. */
    private static void throughLeastSet() {
        // needs are 5, 4, 3, 2
        TannedMen x = Check.told("t1 1;m0 5,0,0,0,0;m0 4,0,0,0,0;m0 3,0,0,0,0;m0 2,0,0,0,0;s0 5;");
        through("5, 4, 3, 2", x, 1, 0, 0);
        through("5, 4, 3, 2", x, 2, 1, 8);
        through("5, 4, 3, 2", x, 3, 1, 4);
        through("5, 4, 3, 2", x, 5, 2, 4 + 8);
        through("5, 4, 3, 2", x, 6, 2, 2 + 8);
        through("5, 4, 3, 2", x, 7, 2, 2 + 4);
        through("5, 4, 3, 2", x, 8, 2, 1 + 4);
        through("5, 4, 3, 2", x, 9, 3, 2 + 4 + 8);
        through("5, 4, 3, 2", x, 12, 3, 1 + 2 + 4);
        through("5, 4, 3, 2", x, 13, 3, 7);
        through("5, 4, 3, 2", x, 14, 4, 15);
    }

    /** 'the most MEN that can be taken': not those that fit when each goes where there is room. */
    private static void throughMostMen() {
        String men = "m0 3,0,0,0,0;m0 3,0,0,0,0;m0 2,0,0,0,0;m0 2,0,0,0,0;m0 2,0,0,0,0;s0 5;";
        TannedMen two = Check.told("t2 1;" + men);
        through("3, 3 | 2, 2, 2", two, 5, 4, 15);
        through("3, 3 | 2, 2, 2", two, 6, 5, 31);
        TannedMen three = Check.told("t3 1;" + men);
        through("3 | 3, 2 | 2, 2", three, 4, 4, 1 + 2 + 4 + 8);
        through("3 | 3, 2 | 2, 2", three, 5, 5, 31);
    }

    /** '(all being empty)': who is in now takes no PIT from anybody. */
    private static void throughEmptyPits() {
        TannedMen x = Check.told("t1 1;m0 1,0,0,0,0;m0 2,0,0,0,0;s0 5;");
        x.in(1);
        through("one is in", x, 1, 1, 1);
        through("one is in", x, 3, 2, 3);
    }

    /** '.. in a PIT from now': by what he is now. */
    private static void throughNeedFromNow() {
        TannedMen x = Check.told("t1 1;m0 9,0,0,0,0;" + POET + "s0 6;s3 5;");
        through("10 and 1", x, 1, 1, 2);
        x.month(1);
        through("10 and 5: month 1 is not for place 0", x, 4, 0, 0);
        through("10 and 5: month 1 is not for place 0", x, 5, 1, 2);
        x.in(0);
        x.month(3);
        through("7 and 2", x, 2, 1, 2);
        through("7 and 2", x, 9, 2, 3);
        x.bark(7);
        through("1 and 2", x, 1, 1, 1);
    }

    /** No men: none, an empty SET; no sayings: all, at once. */
    private static void throughNobody() {
        through("nobody", Check.told("t3 9;"), 200, 0, 0);
        through("nobody", Check.told("t3 9;s0 60;"), 0, 0, 0);
        through("nothing said", Check.told("t1 1;" + SMOKED.repeat(6)), 0, 6, 63);
    }

    /** Promise 22: 'OUTSIDE, NOT: no YARD.' */
    private static void throughRefused() {
        TannedMen x = Check.told("t1 1;" + MAN);
        for (int n : new int[] {Integer.MIN_VALUE, -1, 201, Integer.MAX_VALUE}) {
            CHECK.due("months " + n, x.through(n, 0), OUTSIDE);
        }
        for (int what : new int[] {Integer.MIN_VALUE, -1, 2, Integer.MAX_VALUE}) {
            CHECK.due("what " + what, x.through(0, what), OUTSIDE);
        }
        CHECK.due("no yard", new TannedMen().through(0, 0), NOT);
        CHECK.due("no yard", new TannedMen().through(200, 1), NOT);
        CHECK.due("a fault", Check.told("t4 1;").through(200, 1), NOT);
        CHECK.due("no men is no refusal", Check.told("t1 1;").through(0, 0), 0);
    }

    // ---- promise 23

    /** 'OVER: .. THICKER than the other in more PLACES than less; 0': in as many it is 0. */
    private static void overLike() {
        TannedMen x = Check.told("t2 1;" + POET + POET);
        CHECK.due("alike", x.over(0, 1), 0);
        x.in(0);
        x.month(2);
        x.out(0);
        x.in(1);
        x.month(2);
        // 1, 1, 0, 0, 0 and 0, 0, 1, 1, 0
        CHECK.due("two to two", x.over(0, 1), 0);
        CHECK.due("two to two", x.over(1, 0), 0);
        x.month(1);
        CHECK.due("two to three", x.over(0, 1), 0);
        CHECK.due("three to two", x.over(1, 0), 1);
    }

    /** The same in one place alone; how much thicker is nothing to it, nor how soft. */
    private static void overMorePlaces() {
        TannedMen x = Check.told("t1 9;m3 30,30,30,30,30;" + POET);
        x.in(0);
        x.month(1);
        CHECK.due("one to none", x.over(0, 1), 1);
        CHECK.due("none to one", x.over(1, 0), 0);
        x.out(0);
        x.in(1);
        x.month(2);
        // 27, 0, 0, 0, 0 and 0, 1, 1, 0, 0
        CHECK.due("one by 27 to two by 1", x.over(0, 1), 0);
        CHECK.due("two by 1 to one by 27", x.over(1, 0), 1);
    }

    /** Promise 23: 'UNKNOWN (one twice, too).' */
    private static void overRefused() {
        TannedMen x = Check.told("t1 1;" + MAN.repeat(6));
        for (int m = 0; m < 6; m++) {
            CHECK.due("one twice: " + m, x.over(m, m), UNKNOWN);
            CHECK.due("two: " + m, x.over(m, 5 - m), 0);
        }
        for (int off : new int[] {Integer.MIN_VALUE, -1, 6, Integer.MAX_VALUE}) {
            CHECK.due("over(0, " + off + ")", x.over(0, off), UNKNOWN);
            CHECK.due("over(" + off + ", 0)", x.over(off, 0), UNKNOWN);
            CHECK.due("over(" + off + ", " + off + ")", x.over(off, off), UNKNOWN);
        }
        CHECK.due("one alone", Check.told("t1 1;" + MAN).over(0, 1), UNKNOWN);
    }

    // ---- promise 24

    /** 'n quiet months (0 .. 60), each by q of a hundred (0 .. 100)'. */
    private static void quietBounds() {
        TannedMen x = new TannedMen();
        CHECK.due("none by 0", x.quiet(0, 0), BILLION);
        CHECK.due("none by 100", x.quiet(0, 100), BILLION);
        CHECK.due("one by 0", x.quiet(1, 0), 0);
        CHECK.due("one by 1", x.quiet(1, 1), 10000000);
        CHECK.due("one by 99", x.quiet(1, 99), 990000000);
        CHECK.due("one by 100", x.quiet(1, 100), BILLION);
        CHECK.due("60 by 0", x.quiet(60, 0), 0);
        CHECK.due("60 by 100", x.quiet(60, 100), BILLION);
        CHECK.due("with a yard", Check.told("t1 1;").quiet(2, 50), 250000000);
    }

    /** 'a BILLION times q / 100 each (cut)': cut each time. */
    private static void quietCutEach() {
        TannedMen x = new TannedMen();
        CHECK.due("4 by 1", x.quiet(4, 1), 10);
        CHECK.due("5 by 1", x.quiet(5, 1), 0);
        CHECK.due("5 by 99: 950990049.9", x.quiet(5, 99), 950990049);
        CHECK.due("6 by 99: 941480148.51, whole it is 941480149", x.quiet(6, 99), 941480148);
        CHECK.due("60 by 99, whole it is 547156642", x.quiet(60, 99), 547156620);
    }

    /** Promise 24: 'OUTSIDE.' */
    private static void quietOutside() {
        TannedMen x = new TannedMen();
        for (int n : new int[] {Integer.MIN_VALUE, -1, 61, Integer.MAX_VALUE}) {
            CHECK.due("months " + n, x.quiet(n, 50), OUTSIDE);
        }
        for (int q : new int[] {Integer.MIN_VALUE, -1, 101, Integer.MAX_VALUE}) {
            CHECK.due("of a hundred " + q, x.quiet(0, q), OUTSIDE);
        }
    }
}
