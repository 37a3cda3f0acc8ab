/**
 * The terms' two sentences on refusals, for every call that has one: 'REFUSALS, of several the
 * first in this order: UNKNOWN, OUTSIDE, NOT, FULL', and 'What is refused changes nothing'.
 */
public final class RefusalsTest {
    private static final Check CHECK = new Check("RefusalsTest");
    private static final int UNKNOWN = TannedMen.UNKNOWN;
    private static final int OUTSIDE = TannedMen.OUTSIDE;
    private static final int NOT = TannedMen.NOT;
    private static final int FULL = TannedMen.FULL;
    private static final int[] FAR = {Integer.MIN_VALUE, -1, Integer.MAX_VALUE};

    public static void main(String[] args) {
        howFarBelow();
        theYard();
        monthsAndDrifts();
        pits();
        scrapedAndSaid();
        bark();
        undo();
        tried();
        through();
        heard();
        book();
        images();
        withoutYard();
        CHECK.end();
    }

    /** A yard with something of everything: man 1 is in its only pit, image 0 is kept, letters are fed. */
    private static TannedMen lived() {
        TannedMen x = Check.told("t1 4;m0 3,0,9,1,30;m3 5,5,5,5,5;s0 12;s2 6;");
        x.seed(77);
        x.in(1);
        x.month(2);
        x.scrape(0, 2, 4);
        x.keep(0);
        x.say(0, 0);
        x.bark(7);
        x.drift(1);
        x.undo();
        x.month(1);
        x.hear(0, 0, 7);
        x.hear(1, 1, 0);
        x.write(0, 15);
        x.write(1, 1);
        Check.feed(x, "t3 ");
        return x;
    }

    private static TannedMen fullText() {
        TannedMen x = Check.told("t1 4;m0 3,0,9,1,2;s0 12;");
        x.month(1);
        Check.feed(x, "t2 5;" + " ".repeat(235));
        return x;
    }

    private static TannedMen late() {
        TannedMen x = Check.told("t1 1;m2 1,1,1,1,1;s0 9;");
        x.seed(77);
        x.in(0);
        for (int i = 0; i < 150; i++) {
            x.month(60);
        }
        x.month(1);
        return x;
    }

    private static TannedMen muchHeard() {
        TannedMen x = lived();
        for (int i = 0; i < 4; i++) {
            x.hear(0, 0, 7);
        }
        return x;
    }

    private static TannedMen fullBook() {
        TannedMen x = lived();
        for (int i = 0; i < 13; i++) {
            x.write(0, 15);
        }
        return x;
    }

    private static void lived(String what, Check.Call call, int want) {
        CHECK.leavesAll(what, RefusalsTest::lived, call, want);
    }

    /** 'They are far below all that is counted: -1000000001 and on.' */
    private static void howFarBelow() {
        CHECK.due("UNKNOWN", UNKNOWN, -1000000001);
        CHECK.due("OUTSIDE", OUTSIDE, UNKNOWN - 1);
        CHECK.due("NOT", NOT, OUTSIDE - 1);
        CHECK.due("FULL", FULL, NOT - 1);
        CHECK.due("NONE", TannedMen.NONE, -1);
    }

    private static void theYard() {
        for (int letter : new int[] {Integer.MIN_VALUE, -1, 256, Integer.MAX_VALUE}) {
            lived("feed(" + letter + ")", x -> x.feed(letter), OUTSIDE);
            CHECK.leavesAll("feed(" + letter + "), outside ahead of full", RefusalsTest::fullText, x -> x.feed(letter), OUTSIDE);
        }
        CHECK.leavesAll("feed, full", RefusalsTest::fullText, x -> x.feed('m'), FULL);
        CHECK.leavesAll("feed of a blank, full", RefusalsTest::fullText, x -> x.feed(' '), FULL);
        lived("told(-1)", x -> x.told(-1), OUTSIDE);
        lived("told(15)", x -> x.told(15), OUTSIDE);
        lived("man(0, 5)", x -> x.man(0, 5), OUTSIDE);
        lived("man(0, -1)", x -> x.man(0, -1), OUTSIDE);
        lived("man(2, 0)", x -> x.man(2, 0), UNKNOWN);
        lived("man(2, 5), unknown ahead of outside", x -> x.man(2, 5), UNKNOWN);
        lived("skin(0, 5, 0)", x -> x.skin(0, 5, 0), OUTSIDE);
        lived("skin(0, 0, 2)", x -> x.skin(0, 0, 2), OUTSIDE);
        lived("skin(2, 0, 0)", x -> x.skin(2, 0, 0), UNKNOWN);
        lived("skin(2, 5, 0), unknown ahead of outside", x -> x.skin(2, 5, 0), UNKNOWN);
        lived("skin(-1, 0, 2), unknown ahead of outside", x -> x.skin(-1, 0, 2), UNKNOWN);
        lived("saying(0, 2)", x -> x.saying(0, 2), OUTSIDE);
        lived("saying(2, 0)", x -> x.saying(2, 0), UNKNOWN);
        lived("saying(2, 2), unknown ahead of outside", x -> x.saying(2, 2), UNKNOWN);
        lived("hurt(2, 0)", x -> x.hurt(2, 0), UNKNOWN);
        lived("hurt(0, 2)", x -> x.hurt(0, 2), UNKNOWN);
    }

    private static void monthsAndDrifts() {
        for (int n : new int[] {Integer.MIN_VALUE, -1, 0, 61, Integer.MAX_VALUE}) {
            lived("month(" + n + ")", x -> x.month(n), OUTSIDE);
            lived("drift(" + n + ")", x -> x.drift(n), OUTSIDE);
        }
        for (int n : new int[] {0, 61}) {
            CHECK.leavesAll("month(" + n + "), outside ahead of full", RefusalsTest::late, x -> x.month(n), OUTSIDE);
            CHECK.leavesAll("drift(" + n + "), outside ahead of full", RefusalsTest::late, x -> x.drift(n), OUTSIDE);
        }
        for (int n : new int[] {1, 60}) {
            CHECK.leavesAll("month(" + n + "), full", RefusalsTest::late, x -> x.month(n), FULL);
            CHECK.leavesAll("drift(" + n + "), full", RefusalsTest::late, x -> x.drift(n), FULL);
        }
    }

    private static void pits() {
        for (int m : FAR) {
            lived("in(" + m + ")", x -> x.in(m), UNKNOWN);
            lived("out(" + m + ")", x -> x.out(m), UNKNOWN);
        }
        lived("in(2), unknown ahead of full", x -> x.in(2), UNKNOWN);
        lived("in(1), not ahead of full", x -> x.in(1), NOT);
        lived("in(0), no pit is free", x -> x.in(0), FULL);
        lived("out(2)", x -> x.out(2), UNKNOWN);
        lived("out(0), not in", x -> x.out(0), NOT);
    }

    private static void scrapedAndSaid() {
        for (int off : FAR) {
            lived("scrape, man " + off, x -> x.scrape(off, 0, 1), UNKNOWN);
            lived("scrape, place " + off, x -> x.scrape(0, off, 1), OUTSIDE);
            lived("scrape, by " + off, x -> x.scrape(0, 0, off), OUTSIDE);
            lived("say, man " + off, x -> x.say(0, off), UNKNOWN);
            lived("say, saying " + off, x -> x.say(off, 0), UNKNOWN);
        }
        lived("scrape(2, 5, 0), unknown ahead of outside", x -> x.scrape(2, 5, 0), UNKNOWN);
        lived("scrape(2, 0, 31), unknown ahead of outside", x -> x.scrape(2, 0, 31), UNKNOWN);
        lived("scrape(0, 5, 1)", x -> x.scrape(0, 5, 1), OUTSIDE);
        lived("scrape(0, 4, 0)", x -> x.scrape(0, 4, 0), OUTSIDE);
        lived("scrape(0, 4, 31), outside ahead of not", x -> x.scrape(0, 4, 31), OUTSIDE);
        lived("scrape(0, 1, 1), not soft", x -> x.scrape(0, 1, 1), NOT);
        lived("scrape(0, 2, 6), not so soft", x -> x.scrape(0, 2, 6), NOT);
        lived("say(2, 0)", x -> x.say(2, 0), UNKNOWN);
        lived("say(0, 2)", x -> x.say(0, 2), UNKNOWN);
    }

    private static void bark() {
        for (int b : new int[] {Integer.MIN_VALUE, -1, 0, 10, Integer.MAX_VALUE}) {
            lived("bark(" + b + ")", x -> x.bark(b), OUTSIDE);
        }
    }

    private static void undo() {
        CHECK.leavesAll("undo, none", () -> {
            TannedMen x = lived();
            x.keep(1);
            return x;
        }, TannedMen::undo, NOT);
    }

    private static void tried() {
        lived("thick(2, 5, 201), unknown ahead of outside", x -> x.thick(2, 5, 201), UNKNOWN);
        lived("thick(0, 5, 0)", x -> x.thick(0, 5, 0), OUTSIDE);
        lived("thick(0, -1, 0)", x -> x.thick(0, -1, 0), OUTSIDE);
        lived("thick(0, 0, 201)", x -> x.thick(0, 0, 201), OUTSIDE);
        lived("thick(0, 0, -1)", x -> x.thick(0, 0, -1), OUTSIDE);
        lived("when(2, 0, 2), unknown ahead of outside", x -> x.when(2, 0, 2), UNKNOWN);
        lived("when(0, 2, 2), unknown ahead of outside", x -> x.when(0, 2, 2), UNKNOWN);
        lived("when(0, 0, 2)", x -> x.when(0, 0, 2), OUTSIDE);
        lived("when(0, 0, -1)", x -> x.when(0, 0, -1), OUTSIDE);
        lived("edge(2, 0, 0, 3), unknown ahead of outside", x -> x.edge(2, 0, 0, 3), UNKNOWN);
        lived("edge(0, 4, 0, 3), unknown ahead of outside", x -> x.edge(0, 4, 0, 3), UNKNOWN);
        lived("edge(0, 0, 4, 3), unknown ahead of outside", x -> x.edge(0, 0, 4, 3), UNKNOWN);
        lived("edge(0, 3, 3, 3)", x -> x.edge(0, 3, 3, 3), OUTSIDE);
        lived("edge(0, 3, 3, -1)", x -> x.edge(0, 3, 3, -1), OUTSIDE);
        lived("scraping(2, 0)", x -> x.scraping(2, 0), UNKNOWN);
        lived("scraping(0, 4)", x -> x.scraping(0, 4), UNKNOWN);
        lived("scraping(0, -1)", x -> x.scraping(0, -1), UNKNOWN);
        lived("over(0, 2)", x -> x.over(0, 2), UNKNOWN);
        lived("over(2, 0)", x -> x.over(2, 0), UNKNOWN);
        lived("over(1, 1)", x -> x.over(1, 1), UNKNOWN);
        lived("quiet(61, 0)", x -> x.quiet(61, 0), OUTSIDE);
        lived("quiet(0, 101)", x -> x.quiet(0, 101), OUTSIDE);
    }

    private static void through() {
        for (int n : new int[] {Integer.MIN_VALUE, -1, 201, Integer.MAX_VALUE}) {
            lived("through(" + n + ", 0)", x -> x.through(n, 0), OUTSIDE);
            lived("through(0, " + n + ")", x -> x.through(0, n), OUTSIDE);
        }
        lived("through(0, 2)", x -> x.through(0, 2), OUTSIDE);
    }

    private static void heard() {
        lived("hear(2, 0, 0)", x -> x.hear(2, 0, 0), UNKNOWN);
        lived("hear(0, 2, 0)", x -> x.hear(0, 2, 0), UNKNOWN);
        lived("hear(2, 0, 100), unknown ahead of outside", x -> x.hear(2, 0, 100), UNKNOWN);
        lived("hear(0, 2, -1), unknown ahead of outside", x -> x.hear(0, 2, -1), UNKNOWN);
        lived("hear(0, 0, 100)", x -> x.hear(0, 0, 100), OUTSIDE);
        lived("hear(0, 0, -1)", x -> x.hear(0, 0, -1), OUTSIDE);
        CHECK.leavesAll("hear, full", RefusalsTest::muchHeard, x -> x.hear(0, 0, 8), FULL);
        CHECK.leavesAll("hear, outside ahead of full", RefusalsTest::muchHeard, x -> x.hear(0, 0, 100), OUTSIDE);
        CHECK.leavesAll("hear, unknown ahead of full", RefusalsTest::muchHeard, x -> x.hear(0, 2, 8), UNKNOWN);
        lived("stays(2, 0)", x -> x.stays(2, 0), UNKNOWN);
        lived("stays(2, 3), unknown ahead of outside", x -> x.stays(2, 3), UNKNOWN);
        lived("stays(0, 3)", x -> x.stays(0, 3), OUTSIDE);
        lived("stays(0, -1)", x -> x.stays(0, -1), OUTSIDE);
        lived("ask(2)", x -> x.ask(2), UNKNOWN);
        lived("ask(-1)", x -> x.ask(-1), UNKNOWN);
    }

    private static void book() {
        lived("write(2, 0)", x -> x.write(2, 0), UNKNOWN);
        lived("write(2, -1), unknown ahead of outside", x -> x.write(2, -1), UNKNOWN);
        lived("write(0, -1)", x -> x.write(0, -1), OUTSIDE);
        lived("write(0, 100000)", x -> x.write(0, 100000), OUTSIDE);
        CHECK.leavesAll("write, full", RefusalsTest::fullBook, x -> x.write(0, 0), FULL);
        CHECK.leavesAll("write, outside ahead of full", RefusalsTest::fullBook, x -> x.write(0, 100000), OUTSIDE);
        CHECK.leavesAll("write, unknown ahead of full", RefusalsTest::fullBook, x -> x.write(2, 0), UNKNOWN);
    }

    private static void images() {
        lived("seed(-1)", x -> x.seed(-1), OUTSIDE);
        lived("seed(least)", x -> x.seed(Integer.MIN_VALUE), OUTSIDE);
        for (int i : new int[] {Integer.MIN_VALUE, -1, 2, 32, Integer.MAX_VALUE}) {
            lived("keep(" + i + ")", x -> x.keep(i), UNKNOWN);
            lived("goBack(" + i + ")", x -> x.goBack(i), UNKNOWN);
        }
        lived("goBack(1), not kept", x -> x.goBack(1), NOT);
    }

    /** 'NOT: no YARD', behind UNKNOWN and OUTSIDE. */
    private static void withoutYard() {
        none("month(60)", x -> x.month(60), NOT);
        none("month(61), outside ahead of not", x -> x.month(61), OUTSIDE);
        none("drift(60)", x -> x.drift(60), NOT);
        none("drift(0), outside ahead of not", x -> x.drift(0), OUTSIDE);
        none("bark(9)", x -> x.bark(9), NOT);
        none("bark(10), outside ahead of not", x -> x.bark(10), OUTSIDE);
        none("through(200, 1)", x -> x.through(200, 1), NOT);
        none("through(201, 1), outside ahead of not", x -> x.through(201, 1), OUTSIDE);
        none("through(200, 2), outside ahead of not", x -> x.through(200, 2), OUTSIDE);
        none("undo()", TannedMen::undo, NOT);
        none("goBack(0)", x -> x.goBack(0), NOT);
        none("goBack(2)", x -> x.goBack(2), UNKNOWN);
        none("in(0)", x -> x.in(0), UNKNOWN);
        none("out(0)", x -> x.out(0), UNKNOWN);
        none("scrape(0, 5, 0)", x -> x.scrape(0, 5, 0), UNKNOWN);
        none("say(0, 0)", x -> x.say(0, 0), UNKNOWN);
        none("edge(0, 0, 0, 3)", x -> x.edge(0, 0, 0, 3), UNKNOWN);
        none("hear(0, 0, 100)", x -> x.hear(0, 0, 100), UNKNOWN);
        none("write(0, 100000)", x -> x.write(0, 100000), UNKNOWN);
    }

    private static void none(String what, Check.Call call, int want) {
        CHECK.leavesAll("no yard: " + what, () -> {
            TannedMen x = Check.fed("t1 1;");
            x.seed(9);
            return x;
        }, call, want);
    }
}
