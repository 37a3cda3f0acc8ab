/** Promises 18 to 24: what is tried from now, and changes nothing. */
public final class TriedTest {
    private static final Check CHECK = new Check("TriedTest");
    private static final int[] FAR = {Integer.MIN_VALUE, -1, 201, Integer.MAX_VALUE};

    public static void main(String[] args) {
        thickAsMonthsMakeIt();
        thickRefused();
        when();
        edge();
        onceAtEachHurt();
        scraping();
        throughPits();
        throughNeeds();
        over();
        quiet();
        changesNothing();
        CHECK.end();
    }

    /** What is tried is what months in a pit then make of him. */
    private static void thickAsMonthsMakeIt() {
        for (int kind = 0; kind <= 3; kind++) {
            for (int bark = 1; bark <= 9; bark += 4) {
                TannedMen x = Check.told("t1 " + bark + ";m" + kind + " 1,2,3,4,5;");
                x.in(0);
                x.month(3);
                x.out(0);
                x.month(4);
                int[][] tried = new int[9][5];
                for (int n = 0; n <= 8; n++) {
                    for (int p = 0; p < 5; p++) {
                        tried[n][p] = x.thick(0, p, n);
                    }
                }
                x.in(0);
                for (int n = 0; n <= 8; n++) {
                    for (int p = 0; p < 5; p++) {
                        CHECK.due("kind " + kind + ", months " + n + ", place " + p, x.skin(0, p, 1), tried[n][p]);
                    }
                    x.month(1);
                }
            }
        }
        TannedMen x = Check.told("t1 4;m0 0,0,0,0,0;m2 0,0,0,0,0;");
        CHECK.due("thick(0, 0, 24)", x.thick(0, 0, 24), 96);
        CHECK.due("thick(0, 0, 25)", x.thick(0, 0, 25), 99);
        CHECK.due("thick(1, 4, 200)", x.thick(1, 4, 200), 40);
        x.bark(1);
        CHECK.due("by the bark that is now", x.thick(0, 0, 24), 24);
        x.month(3);
        CHECK.due("by the months that are now", x.thick(1, 3, 1), 1);
        CHECK.due("by the months that are now", x.thick(1, 0, 1), 0);
    }

    private static void thickRefused() {
        TannedMen x = Check.told("t1 4;m0 0,0,0,0,0;");
        for (int off : FAR) {
            CHECK.due("months " + off, x.thick(0, 0, off), TannedMen.OUTSIDE);
            CHECK.due("place " + off, x.thick(0, off, 0), TannedMen.OUTSIDE);
            CHECK.due("man " + off, x.thick(off, off, off), TannedMen.UNKNOWN);
        }
        CHECK.due("place 5", x.thick(0, 5, 0), TannedMen.OUTSIDE);
        CHECK.due("man 1", x.thick(1, 5, 0), TannedMen.UNKNOWN);
    }

    private static void when() {
        TannedMen x = Check.told("t1 4;m0 3,0,9,1,2;m1 0,0,0,0,0;m2 0,0,0,0,30;s0 12;s2 5;s2 6;s4 16;s4 15;");
        CHECK.due("15 to bear: 3 months", x.when(0, 0, 0), 3);
        CHECK.due("15 felt: 3 months", x.when(0, 0, 1), 3);
        CHECK.due("borne now", x.when(1, 1, 0), 0);
        CHECK.due("never borne", x.when(1, 2, 0), TannedMen.NONE);
        CHECK.due("felt for ever", x.when(1, 1, 1), 200);
        // a poet, at 30 + 16: place 4 is thicker by one at 5, 10, .. 200 months: 40 at last
        CHECK.due("a poet bears it at 41: never", x.when(2, 3, 0), TannedMen.NONE);
        CHECK.due("a poet bears it at 40: the last month", x.when(2, 4, 0), 200);
        x.in(0);
        x.month(4);
        CHECK.due("from now", x.when(0, 0, 0), 0);
        CHECK.due("never felt from now", x.when(0, 0, 1), TannedMen.NONE);
        CHECK.due("0 months: felt now alone", x.when(0, 3, 1), 0);
        x.out(0);
        CHECK.due("out of the pit, too", x.when(0, 3, 1), 0);
        x.scrape(2, 4, 30);
        CHECK.due("scraped: 16 less 5", x.when(2, 3, 0), 51);
        for (int off : FAR) {
            CHECK.due("what " + off, x.when(0, 0, off), TannedMen.OUTSIDE);
            CHECK.due("saying " + off, x.when(0, off, off), TannedMen.UNKNOWN);
            CHECK.due("man " + off, x.when(off, 0, off), TannedMen.UNKNOWN);
        }
        CHECK.due("what 2", x.when(0, 0, 2), TannedMen.OUTSIDE);
        CHECK.due("saying 5", x.when(0, 5, 2), TannedMen.UNKNOWN);
        CHECK.due("man 3", x.when(3, 0, 2), TannedMen.UNKNOWN);
    }

    private static void edges(TannedMen x, int bears, int feels, int many, int least, int greatest) {
        String what = "edge(0, " + bears + ", " + feels + ")";
        CHECK.due(what + " how many", x.edge(0, bears, feels, 0), many);
        CHECK.due(what + " least", x.edge(0, bears, feels, 1), least);
        CHECK.due(what + " greatest", x.edge(0, bears, feels, 2), greatest);
    }

    private static void edge() {
        // man 0 thickens by 2 a month: saying 0 is borne from 3 on, felt to 4; 1: from 8, to 9
        TannedMen x = Check.told("t1 2;m0 0,0,0,0,0;s0 10;s1 20;");
        edges(x, 0, 0, 201, 0, 200);
        edges(x, 1, 0, 198, 3, 200);
        edges(x, 3, 0, 193, 8, 200);
        edges(x, 0, 1, 5, 0, 4);
        edges(x, 0, 2, 10, 0, 9);
        edges(x, 0, 3, 5, 0, 4);
        edges(x, 1, 1, 2, 3, 4);
        edges(x, 1, 2, 7, 3, 9);
        edges(x, 3, 2, 2, 8, 9);
        edges(x, 2, 1, 0, TannedMen.NONE, TannedMen.NONE);
        for (int off : new int[] {Integer.MIN_VALUE, -1, 4, 7, 256, Integer.MAX_VALUE}) {
            CHECK.due("bears " + off, x.edge(0, off, 0, 9), TannedMen.UNKNOWN);
            CHECK.due("feels " + off, x.edge(0, 0, off, 9), TannedMen.UNKNOWN);
            CHECK.due("man " + off, x.edge(off, 0, 0, 9), TannedMen.UNKNOWN);
            CHECK.due("what " + off, x.edge(0, 3, 3, off), TannedMen.OUTSIDE);
        }
        CHECK.due("what 3", x.edge(0, 3, 3, 3), TannedMen.OUTSIDE);
        CHECK.due("no sayings", Check.told("t1 2;m0 0,0,0,0,0;").edge(0, 1, 0, 0), TannedMen.UNKNOWN);
        CHECK.due("no sayings", Check.told("t1 2;m0 0,0,0,0,0;").edge(0, 0, 0, 0), 201);
        TannedMen y = Check.told("t1 2;m0 0,0,0,0,0;s0 1;s0 2;s0 3;s0 4;s0 5;s0 6;s0 7;s0 8;");
        CHECK.due("all eight", y.edge(0, 255, 0, 1), 2);
        CHECK.due("a ninth", y.edge(0, 256, 0, 1), TannedMen.UNKNOWN);
    }

    /** By 1 a month every hurt comes by: 1 is felt, 0 is not; 5 is borne, 6 is not. */
    private static void onceAtEachHurt() {
        TannedMen x = Check.told("t1 1;m0 0,0,0,0,0;s0 9;");
        CHECK.due("borne at 5", x.when(0, 0, 0), 4);
        CHECK.due("felt at 1", x.when(0, 0, 1), 8);
        edges(x, 1, 1, 5, 4, 8);
        edges(x, 0, 1, 9, 0, 8);
        edges(x, 1, 0, 197, 4, 200);
    }

    private static void scraping() {
        TannedMen x = Check.told("t1 2;m0 9,3,0,0,6;s0 3;s0 5;s1 2;s1 3;s2 5;s2 6;s4 5;");
        CHECK.due("of none", x.scraping(0, 0), 0);
        CHECK.due("9 and 3: by 7", x.scraping(0, 1), 7);
        CHECK.due("9 and 5: by all", x.scraping(0, 2), 9);
        CHECK.due("the greater one of a place", x.scraping(0, 3), 9);
        CHECK.due("borne already", x.scraping(0, 4), 0);
        CHECK.due("by one", x.scraping(0, 8), 1);
        CHECK.due("places together", x.scraping(0, 1 + 8 + 64), 7 + 1 + 6);
        CHECK.due("nothing to scrape, borne", x.scraping(0, 16), 0);
        CHECK.due("nothing to scrape", x.scraping(0, 32), TannedMen.NONE);
        CHECK.due("by none", x.scraping(0, 127), TannedMen.NONE);
        x.in(0);
        x.month(1);
        CHECK.due("less when he is thicker", x.scraping(0, 127), 7 + 0 + 4);
        x.scrape(0, 0, 2);
        CHECK.due("less when he is scraped", x.scraping(0, 127), 5 + 0 + 4);
        for (int off : new int[] {Integer.MIN_VALUE, -1, 128, Integer.MAX_VALUE}) {
            CHECK.due("set " + off, x.scraping(0, off), TannedMen.UNKNOWN);
            CHECK.due("man " + off, x.scraping(off, 0), TannedMen.UNKNOWN);
        }
        CHECK.due("man 1", x.scraping(1, 0), TannedMen.UNKNOWN);
    }

    private static void pits(TannedMen x, int n, int many, int which) {
        CHECK.due("through(" + n + ", 0)", x.through(n, 0), many);
        CHECK.due("through(" + n + ", 1)", x.through(n, 1), which);
    }

    private static void throughPits() {
        // bark 1: needs are 10, 4, 6, 3, 7, 30
        String men = "m0 10,0,0,0,0;m0 4,0,0,0,0;m0 6,0,0,0,0;m0 3,0,0,0,0;m0 7,0,0,0,0;m0 30,0,0,0,0;s0 5;";
        TannedMen one = Check.told("t1 1;" + men);
        pits(one, 0, 0, 0);
        pits(one, 2, 0, 0);
        pits(one, 3, 1, 8);
        pits(one, 4, 1, 2);
        pits(one, 6, 1, 2);
        pits(one, 7, 2, 2 + 8);
        pits(one, 12, 2, 2 + 4);
        pits(one, 13, 3, 2 + 4 + 8);
        pits(one, 29, 4, 1 + 2 + 4 + 8);
        pits(one, 30, 5, 31);
        pits(one, 59, 5, 31);
        pits(one, 60, 6, 63);
        pits(one, 200, 6, 63);
        TannedMen two = Check.told("t2 1;" + men);
        pits(two, 3, 1, 8);
        pits(two, 4, 2, 2 + 8);
        pits(two, 9, 3, 2 + 4 + 8);
        pits(two, 10, 4, 2 + 4 + 8 + 16);
        pits(two, 15, 4, 1 + 2 + 4 + 8);
        pits(two, 16, 5, 31);
        pits(two, 29, 5, 31);
        pits(two, 30, 6, 63);
        TannedMen three = Check.told("t3 1;" + men);
        pits(three, 6, 3, 2 + 4 + 8);
        pits(three, 7, 4, 2 + 4 + 8 + 16);
        pits(three, 10, 5, 31);
        pits(three, 29, 5, 31);
        for (int off : FAR) {
            CHECK.due("months " + off, three.through(off, 0), TannedMen.OUTSIDE);
            CHECK.due("what " + off, three.through(0, off), TannedMen.OUTSIDE);
            CHECK.due("no yard", new TannedMen().through(off, 0), TannedMen.OUTSIDE);
        }
        CHECK.due("what 2", three.through(0, 2), TannedMen.OUTSIDE);
        CHECK.due("what 2, no yard", new TannedMen().through(0, 2), TannedMen.OUTSIDE);
        CHECK.due("no yard", new TannedMen().through(0, 1), TannedMen.NOT);
    }

    private static void throughNeeds() {
        pits(Check.told("t1 1;s0 60;"), 200, 0, 0);
        pits(Check.told("t1 1;m0 9,9,9,9,9;s0 1;"), 5, 1, 1);
        pits(Check.told("t1 1;m0 9,9,9,9,9;s0 1;"), 4, 0, 0);
        pits(Check.told("t1 1;m0 9,9,9,9,9;m1 1,1,1,1,1;"), 0, 2, 3);
        TannedMen x = Check.told("t1 1;m1 0,0,1,0,0;m2 0,0,0,0,0;m0 20,0,0,0,0;m3 0,0,0,0,0;s0 5;s2 5;");
        pits(x, 0, 2, 2 + 8);
        pits(x, 19, 2, 2 + 8);
        pits(x, 20, 3, 2 + 4 + 8);
        pits(x, 200, 3, 2 + 4 + 8);
        x.in(2);
        x.month(15);
        pits(x, 5, 3, 2 + 4 + 8);
        pits(x, 4, 2, 2 + 8);
        x.bark(5);
        pits(x, 1, 3, 2 + 4 + 8);
    }

    private static void over() {
        TannedMen x = Check.told("t3 2;m0 0,0,0,0,0;m3 0,0,0,0,0;m1 9,9,9,9,9;");
        CHECK.due("alike", x.over(0, 1), 0);
        x.in(0);
        x.month(1);
        CHECK.due("over(0, 1)", x.over(0, 1), 1);
        CHECK.due("over(1, 0)", x.over(1, 0), 0);
        x.out(0);
        x.in(1);
        x.month(2);
        // man 1 is thicker in places 0 and 1 (6 to 2), man 0 in 2, 3, 4
        CHECK.due("in three places to two", x.over(0, 1), 1);
        CHECK.due("in two places to three", x.over(1, 0), 0);
        x.month(1);
        CHECK.due("over(1, 0)", x.over(1, 0), 1);
        CHECK.due("over(0, 1)", x.over(0, 1), 0);
        x.in(2);
        x.month(1);
        // man 2: 2, 2, 0, 2, 2 and man 0: 2 everywhere
        CHECK.due("over(0, 2)", x.over(0, 2), 1);
        CHECK.due("over(2, 0)", x.over(2, 0), 0);
        for (int off : new int[] {Integer.MIN_VALUE, -1, 3, Integer.MAX_VALUE}) {
            CHECK.due("over(0, " + off + ")", x.over(0, off), TannedMen.UNKNOWN);
            CHECK.due("over(" + off + ", 0)", x.over(off, 0), TannedMen.UNKNOWN);
        }
        CHECK.due("one twice", x.over(2, 2), TannedMen.UNKNOWN);
    }

    private static void quiet() {
        TannedMen x = new TannedMen();
        CHECK.due("quiet(0, 0)", x.quiet(0, 0), 1000000000);
        CHECK.due("quiet(0, 37)", x.quiet(0, 37), 1000000000);
        CHECK.due("quiet(1, 0)", x.quiet(1, 0), 0);
        CHECK.due("quiet(1, 1)", x.quiet(1, 1), 10000000);
        CHECK.due("quiet(4, 1)", x.quiet(4, 1), 10);
        CHECK.due("quiet(5, 1)", x.quiet(5, 1), 0);
        CHECK.due("quiet(60, 100)", x.quiet(60, 100), 1000000000);
        CHECK.due("quiet(5, 99)", x.quiet(5, 99), 950990049);
        // each month is cut, not the whole alone
        int odds = 1000000000;
        for (int n = 0; n <= 60; n++) {
            CHECK.due("quiet(" + n + ", 97)", x.quiet(n, 97), odds);
            odds = (int) (odds * 97L / 100);
        }
        for (int off : new int[] {Integer.MIN_VALUE, -1, 101, Integer.MAX_VALUE}) {
            CHECK.due("quiet(0, " + off + ")", x.quiet(0, off), TannedMen.OUTSIDE);
            CHECK.due("quiet(" + off + ", 0)", x.quiet(off, 0), TannedMen.OUTSIDE);
        }
        CHECK.due("quiet(61, 0)", x.quiet(61, 0), TannedMen.OUTSIDE);
    }

    private static void changesNothing() {
        TannedMen x = Check.told("t2 4;m0 3,0,9,1,2;m3 5,5,5,5,5;m2 9,9,9,9,9;s0 12;s3 60;");
        x.in(1);
        x.month(3);
        x.say(0, 0);
        String ahead = Check.seen(x);
        x.thick(1, 0, 200);
        x.when(2, 1, 0);
        x.when(2, 1, 1);
        x.edge(0, 3, 1, 0);
        x.scraping(0, 3);
        x.through(200, 1);
        x.over(0, 1);
        x.quiet(60, 50);
        x.stays(1, 0);
        x.ask(1);
        x.judge();
        CHECK.holds("nothing changes by what is tried", ahead.equals(Check.seen(x)));
    }
}
