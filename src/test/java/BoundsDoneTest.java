/** Section 2 and promises 10 to 17 at their bounds: a method for each sentence, which it quotes. */
public final class BoundsDoneTest {
    private static final Check CHECK = new Check("BoundsDoneTest");
    private static final int UNKNOWN = TannedMen.UNKNOWN;
    private static final int OUTSIDE = TannedMen.OUTSIDE;
    private static final int NOT = TannedMen.NOT;
    private static final int FULL = TannedMen.FULL;
    private static final String MAN = "m0 0,0,0,0,0;";
    private static final String SAYING = "s0 1;";

    public static void main(String[] args) {
        notInAtFirst();
        publicToNinetyNine();
        smokedByHalfOfBark();
        smokedToNinetyNine();
        poetByMonthsLeftOver();
        poetToNinetyNine();
        oldByThreeTimesBark();
        oldOfLikeOnes();
        oldToNinetyNine();
        allWhoAreInPits();
        monthLeastAndMost();
        monthOutside();
        monthFull();
        monthNot();
        inEachPit();
        inNotAheadOfFull();
        inUnknown();
        outBearsAllAndNone();
        outNot();
        scrapeLeastAndMost();
        scrapeNot();
        scrapeOutside();
        sayNoHurt();
        sayWoundsAtMost();
        sayUnknown();
        barkLeastAndMost();
        barkNot();
        driftLeastAndMost();
        driftFull();
        undoNone();
        undoEachOnce();
        undoOfSixMen();
        undoSixteenAtMost();
        undoRoundAndRound();
        undoNothingRefused();
        undoNothingTried();
        undoNotUndone();
        undoLeavesTheSeed();
        undoGoneByYard();
        CHECK.end();
    }

    private static TannedMen inPit(String text) {
        TannedMen x = Check.told(text);
        x.in(0);
        return x;
    }

    private static void thick(String what, TannedMen x, int m, int... due) {
        for (int p = 0; p < 5; p++) {
            CHECK.due(what + ", place " + p, x.skin(m, p, 1), due[p]);
        }
    }

    private static void thickAll(String what, TannedMen x, int due) {
        thick(what, x, 0, due, due, due, due, due);
    }

    /** Passes months, whose number may be above 60. */
    private static void pass(TannedMen x, int months) {
        for (int left = months; left > 0; left -= 60) {
            x.month(Math.min(60, left));
        }
    }

    private static TannedMen at(int months) {
        TannedMen x = Check.told("t1 1;" + MAN + SAYING);
        pass(x, months);
        return x;
    }

    // ---- section 2

    /** 'A MAN is in a PIT, or not (not at first)', 'THICK by 0 (at first)'. */
    private static void notInAtFirst() {
        TannedMen x = Check.told("t3 9;" + MAN.repeat(6) + SAYING);
        for (int m = 0; m < 6; m++) {
            CHECK.due("in: " + m, x.man(m, 1), 0);
            CHECK.due("wounds: " + m, x.man(m, 2), 0);
            thick("at first: " + m, x, m, 0, 0, 0, 0, 0);
        }
        x.month(60);
        thick("still", x, 0, 0, 0, 0, 0, 0);
    }

    /** 'THICK by 0 .. to 99': a public man, to it and not beyond. */
    private static void publicToNinetyNine() {
        TannedMen nine = inPit("t1 9;" + MAN);
        nine.month(10);
        thickAll("10 times 9", nine, 90);
        nine.month(1);
        thickAll("11 times 9", nine, 99);
        nine.month(1);
        thickAll("12 times 9", nine, 99);
        TannedMen seven = inPit("t1 7;" + MAN);
        seven.month(14);
        thickAll("14 times 7", seven, 98);
        seven.month(1);
        thickAll("15 times 7", seven, 99);
        TannedMen one = inPit("t1 1;" + MAN);
        pass(one, 98);
        thickAll("98 times 1", one, 98);
        pass(one, 1);
        thickAll("99 times 1", one, 99);
        pass(one, 60);
        thickAll("159 times 1", one, 99);
    }

    /** 'in each PLACE by half of BARK (cut), and 1, but in PLACE 2 not'. */
    private static void smokedByHalfOfBark() {
        int[] due = {0, 1, 2, 2, 3, 3, 4, 4, 5, 5};
        for (int b = 1; b <= 9; b++) {
            TannedMen x = inPit("t1 " + b + ";m1 0,0,0,0,0;");
            x.month(1);
            thick("bark " + b, x, 0, due[b], due[b], 0, due[b], due[b]);
        }
    }

    /** The same to 99. */
    private static void smokedToNinetyNine() {
        TannedMen x = inPit("t1 9;m1 0,0,0,0,0;");
        x.month(19);
        thick("19 times 5", x, 0, 95, 95, 0, 95, 95);
        x.month(1);
        thick("20 times 5", x, 0, 99, 99, 0, 99, 99);
        x.month(1);
        thick("21 times 5", x, 0, 99, 99, 0, 99, 99);
    }

    /** 'in one PLACE alone by 1: that of MONTHS left over by 5', whatever the bark. */
    private static void poetByMonthsLeftOver() {
        TannedMen x = inPit("t1 9;m2 0,0,0,0,0;");
        int[] due = new int[5];
        for (int month = 0; month < 12; month++) {
            due[month % 5]++;
            x.month(1);
            thick("month " + month, x, 0, due);
        }
        TannedMen late = Check.told("t1 1;m2 0,0,0,0,0;");
        pass(late, 9000);
        late.in(0);
        late.month(1);
        thick("month 9000", late, 0, 1, 0, 0, 0, 0);
        TannedMen fourth = Check.told("t1 1;m2 0,0,0,0,0;");
        fourth.month(4);
        fourth.in(0);
        fourth.month(1);
        thick("month 4", fourth, 0, 0, 0, 0, 0, 1);
        fourth.month(1);
        thick("month 5", fourth, 0, 1, 0, 0, 0, 1);
    }

    /** The same to 99. */
    private static void poetToNinetyNine() {
        TannedMen x = inPit("t1 9;m2 0,0,0,0,0;");
        pass(x, 494);
        thick("494 months", x, 0, 99, 99, 99, 99, 98);
        pass(x, 1);
        thickAll("495 months", x, 99);
        pass(x, 60);
        thickAll("555 months", x, 99);
    }

    /** 'in that PLACE where he is least THICK .. by three times BARK'. */
    private static void oldByThreeTimesBark() {
        for (int b = 1; b <= 9; b++) {
            TannedMen x = inPit("t1 " + b + ";m3 9,9,9,9,9;");
            x.month(1);
            thick("bark " + b, x, 0, 3 * b, 0, 0, 0, 0);
        }
    }

    /** '(of like ones the least)'. */
    private static void oldOfLikeOnes() {
        TannedMen x = inPit("t1 2;m3 0,0,0,0,0;");
        int[] due = new int[5];
        for (int month = 0; month < 11; month++) {
            due[month % 5] += 6;
            x.month(1);
            thick("month " + month, x, 0, due);
        }
        x.bark(1);
        x.month(1);
        thick("18 | 15, 12, 12, 12", x, 0, 18, 15, 12, 12, 12);
        x.bark(9);
        x.month(1);
        thick("not the least place, the least thick", x, 0, 18, 15, 39, 12, 12);
    }

    /** The same to 99. */
    private static void oldToNinetyNine() {
        TannedMen x = inPit("t1 9;m3 0,0,0,0,0;");
        x.month(15);
        thickAll("15 months", x, 81);
        x.month(1);
        thick("108, cut", x, 0, 99, 81, 81, 81, 81);
        x.month(4);
        thickAll("20 months", x, 99);
        x.month(1);
        thickAll("21 months", x, 99);
        x.month(60);
        thickAll("81 months", x, 99);
    }

    /** 'A MONTH: all who are in PITS, so; MONTHS (0 at first) are one more.' */
    private static void allWhoAreInPits() {
        TannedMen x = Check.told("t3 2;" + MAN.repeat(6));
        CHECK.due("months at first", x.told(5), 0);
        x.in(0);
        x.in(3);
        x.in(5);
        CHECK.due("month(1)", x.month(1), 1);
        for (int m = 0; m < 6; m++) {
            int due = m == 0 || m == 3 || m == 5 ? 2 : 0;
            thick("man " + m, x, m, due, due, due, due, due);
        }
        TannedMen none = Check.told("t3 2;");
        CHECK.due("without men", none.month(1), 1);
    }

    // ---- promise 10

    /** 'n MONTHS (1 .. 60): MONTHS.' */
    private static void monthLeastAndMost() {
        TannedMen x = inPit("t1 1;" + MAN);
        CHECK.due("month(1)", x.month(1), 1);
        thickAll("1 month", x, 1);
        CHECK.due("month(60)", x.month(60), 61);
        thickAll("61 months", x, 61);
        CHECK.due("month(59)", x.month(59), 120);
    }

    /** 'OUTSIDE'. */
    private static void monthOutside() {
        TannedMen x = inPit("t1 1;" + MAN);
        for (int n : new int[] {Integer.MIN_VALUE, -60, -1, 0, 61, 120, Integer.MAX_VALUE}) {
            CHECK.due("month(" + n + ")", x.month(n), OUTSIDE);
            CHECK.due("drift(" + n + ")", x.drift(n), OUTSIDE);
        }
        CHECK.due("months", x.told(5), 0);
    }

    /** 'FULL: MONTHS are above 9000.' */
    private static void monthFull() {
        CHECK.due("at 8999", at(8999).month(1), 9000);
        CHECK.due("at 9000, by 1", at(9000).month(1), 9001);
        CHECK.due("at 9000, by 60", at(9000).month(60), 9060);
        CHECK.due("at 9001", at(9001).month(1), FULL);
        TannedMen x = at(9001);
        CHECK.due("in", x.in(0), 0);
        CHECK.due("say", x.say(0, 0), 1);
        CHECK.due("bark", x.bark(2), 1);
        CHECK.due("out", x.out(0), 1);
        CHECK.due("what is done else is not refused", x.told(14), 16);
        TannedMen y = at(9000);
        y.month(1);
        y.month(1);
        y.undo();
        CHECK.due("undone to 9000", y.told(5), 9000);
        CHECK.due("it can be done again", y.month(1), 9001);
        CHECK.due("and no more", y.month(1), FULL);
    }

    /** 'NOT: no YARD'. */
    private static void monthNot() {
        CHECK.due("new", new TannedMen().month(1), NOT);
        CHECK.due("with a text alone", Check.fed("t1 1;").month(1), NOT);
        CHECK.due("with a fault", Check.told("t1 1").month(1), NOT);
        CHECK.due("with blanks", Check.told(" ").month(1), NOT);
        CHECK.due("with a yard", Check.told("t1 1;").month(1), 1);
    }

    // ---- promises 11, 12

    /** Promise 11: 'LET DOWN: PITS that are free then .. FULL: no PIT is free.' */
    private static void inEachPit() {
        for (int pits = 1; pits <= 3; pits++) {
            TannedMen x = Check.told("t" + pits + " 1;" + MAN.repeat(6));
            for (int m = 0; m < pits; m++) {
                CHECK.due("in(" + m + ") of " + pits, x.in(m), pits - m - 1);
            }
            CHECK.due("full: " + pits, x.in(5), FULL);
            CHECK.due("full: " + pits, x.in(pits), FULL);
            x.out(0);
            CHECK.due("free again: " + pits, x.in(5), 0);
            CHECK.due("full again: " + pits, x.in(0), FULL);
        }
    }

    /** Promise 11: 'NOT: he is in', ahead of FULL. */
    private static void inNotAheadOfFull() {
        TannedMen one = Check.told("t1 1;" + MAN.repeat(2));
        one.in(0);
        CHECK.due("full, he is in", one.in(0), NOT);
        CHECK.due("full, he is not", one.in(1), FULL);
        TannedMen three = Check.told("t3 1;" + MAN.repeat(2));
        three.in(0);
        CHECK.due("a pit is free, he is in", three.in(0), NOT);
        CHECK.due("who is in", three.told(6), 1);
    }

    /** Promises 11, 12: 'UNKNOWN'. */
    private static void inUnknown() {
        TannedMen x = Check.told("t3 1;" + MAN.repeat(6));
        for (int m : new int[] {Integer.MIN_VALUE, -1, 6, 32, Integer.MAX_VALUE}) {
            CHECK.due("in(" + m + ")", x.in(m), UNKNOWN);
            CHECK.due("out(" + m + ")", x.out(m), UNKNOWN);
        }
        CHECK.due("in(5)", x.in(5), 2);
        CHECK.due("out(5)", x.out(5), 0);
        CHECK.due("nobody there", Check.told("t3 1;").in(0), UNKNOWN);
        CHECK.due("nobody there", Check.told("t3 1;").out(0), UNKNOWN);
    }

    /** Promise 12: 'DRAWN UP: SAYINGS that he BEARS (a SET).' */
    private static void outBearsAllAndNone() {
        CHECK.due("no sayings", inPit("t1 1;" + MAN).out(0), 0);
        CHECK.due("none of eight", inPit("t1 1;" + MAN + "s0 6;".repeat(8)).out(0), 0);
        CHECK.due("all of eight", inPit("t1 1;" + MAN + "s0 5;".repeat(8)).out(0), 255);
        CHECK.due("the last of eight", inPit("t1 1;" + MAN + "s0 6;".repeat(7) + "s0 5;").out(0), 128);
        TannedMen x = inPit("t1 1;" + MAN + "s0 6;s0 7;");
        x.month(1);
        CHECK.due("by what a month did", x.out(0), 1);
        CHECK.due("he is out", x.man(0, 1), 0);
    }

    /** Promise 12: 'NOT: he is not in.' */
    private static void outNot() {
        TannedMen x = Check.told("t1 1;" + MAN.repeat(2));
        CHECK.due("at first", x.out(0), NOT);
        x.in(0);
        CHECK.due("the other", x.out(1), NOT);
        CHECK.due("he", x.out(0), 0);
        CHECK.due("twice", x.out(0), NOT);
    }

    // ---- promises 13, 14

    /** Promise 13: 'SCRAPED in a PLACE (0 .. 4) by n (1 .. 30): how SOFT he is there.' */
    private static void scrapeLeastAndMost() {
        for (int p = 0; p < 5; p++) {
            TannedMen x = Check.told("t1 1;m0 30,30,30,30,30;");
            CHECK.due("by 1, place " + p, x.scrape(0, p, 1), 29);
            CHECK.due("by 29, place " + p, x.scrape(0, p, 29), 0);
            x.undo();
            x.undo();
            CHECK.due("by 30, place " + p, x.scrape(0, p, 30), 0);
            for (int q = 0; q < 5; q++) {
                CHECK.due("soft in " + q, x.skin(0, q, 0), q == p ? 0 : 30);
            }
            CHECK.due("glue", x.told(7), 30);
        }
    }

    /** Promise 13: 'NOT: he is not so SOFT.' */
    private static void scrapeNot() {
        TannedMen x = Check.told("t1 1;m0 0,1,7,29,30;");
        CHECK.due("1 of 0", x.scrape(0, 0, 1), NOT);
        CHECK.due("30 of 0", x.scrape(0, 0, 30), NOT);
        CHECK.due("2 of 1", x.scrape(0, 1, 2), NOT);
        CHECK.due("8 of 7", x.scrape(0, 2, 8), NOT);
        CHECK.due("7 of 7", x.scrape(0, 2, 7), 0);
        CHECK.due("1 more", x.scrape(0, 2, 1), NOT);
        CHECK.due("30 of 29", x.scrape(0, 3, 30), NOT);
        CHECK.due("30 of 30", x.scrape(0, 4, 30), 0);
        CHECK.due("glue", x.told(7), 37);
    }

    /** Promise 13: 'UNKNOWN, OUTSIDE'. */
    private static void scrapeOutside() {
        TannedMen x = Check.told("t1 1;m0 30,30,30,30,30;");
        for (int n : new int[] {Integer.MIN_VALUE, -30, -1, 0, 31, Integer.MAX_VALUE}) {
            CHECK.due("by " + n, x.scrape(0, 0, n), OUTSIDE);
        }
        for (int p : new int[] {Integer.MIN_VALUE, -1, 5, Integer.MAX_VALUE}) {
            CHECK.due("place " + p, x.scrape(0, p, 1), OUTSIDE);
        }
        for (int m : new int[] {Integer.MIN_VALUE, -1, 1, 6, Integer.MAX_VALUE}) {
            CHECK.due("man " + m, x.scrape(m, 0, 1), UNKNOWN);
        }
        CHECK.due("glue", x.told(7), 0);
        CHECK.due("can be undone", x.told(14), 0);
    }

    /** Promise 14: 'SAID: his WOUNDS', by a hurt of 0 no more; that is no refusal. */
    private static void sayNoHurt() {
        TannedMen x = inPit("t1 1;" + MAN + "s0 1;s0 2;");
        CHECK.due("hurt of 1", x.say(0, 0), 1);
        x.month(1);
        CHECK.due("hurt of 0", x.say(0, 0), 1);
        CHECK.due("hurt of 1", x.say(1, 0), 2);
        x.month(9);
        CHECK.due("hurt of 0", x.say(1, 0), 2);
        CHECK.due("all of them can be undone", x.told(14), 7);
    }

    /** 'HURT of it is added to his WOUNDS (99999 at most)', said and drawn. */
    private static void sayWoundsAtMost() {
        TannedMen x = Wounded.near();
        CHECK.due("near it", x.man(0, 2), 99960);
        CHECK.due("60 more, cut", x.say(0, 0), 99999);
        CHECK.due("60 more, cut", x.say(0, 0), 99999);
        CHECK.due("wounds", x.man(0, 2), 99999);
        x.undo();
        x.undo();
        CHECK.due("undone", x.man(0, 2), 99960);
        x.seed(Seeds.drawing(5, 2, 2, 0, 1, 0));
        x.drift(1);
        CHECK.due("60 more by a draw, cut", x.man(0, 2), 99999);
        x.write(0, 99999);
        CHECK.due("a book that knows", x.judge(), TannedMen.NONE);
    }

    /** Promise 14: 'UNKNOWN', of either. */
    private static void sayUnknown() {
        TannedMen x = Check.told("t1 1;" + MAN.repeat(2) + SAYING.repeat(3));
        CHECK.due("the last of both", x.say(2, 1), 1);
        for (int off : new int[] {Integer.MIN_VALUE, -1, 3, Integer.MAX_VALUE}) {
            CHECK.due("saying " + off, x.say(off, 0), UNKNOWN);
            CHECK.due("man " + off, x.say(0, off), UNKNOWN);
        }
        CHECK.due("saying 2 there is, man 2 there is not", x.say(0, 2), UNKNOWN);
        CHECK.due("no sayings", Check.told("t1 1;" + MAN).say(0, 0), UNKNOWN);
        CHECK.due("no men", Check.told("t1 1;" + SAYING).say(0, 0), UNKNOWN);
    }

    // ---- promises 15, 16

    /** Promise 15: 'BARK (1 .. 9): what it was. OUTSIDE'. */
    private static void barkLeastAndMost() {
        TannedMen x = Check.told("t1 5;");
        CHECK.due("bark(1)", x.bark(1), 5);
        CHECK.due("bark(9)", x.bark(9), 1);
        CHECK.due("bark(9) again", x.bark(9), 9);
        for (int b : new int[] {Integer.MIN_VALUE, -1, 0, 10, Integer.MAX_VALUE}) {
            CHECK.due("bark(" + b + ")", x.bark(b), OUTSIDE);
        }
        CHECK.due("bark", x.told(1), 9);
        CHECK.due("can be undone", x.told(14), 3);
    }

    /** Promise 15: 'NOT: no YARD.' */
    private static void barkNot() {
        CHECK.due("new", new TannedMen().bark(1), NOT);
        CHECK.due("with a text alone", Check.fed("t1 1;").bark(9), NOT);
        CHECK.due("with a fault", Check.told("t1 10;").bark(9), NOT);
        CHECK.due("a yard without men is one", Check.told("t1 1;").bark(9), 1);
    }

    /** Promise 16: 'n MONTHS (1 .. 60) BY DRAWS: MONTHS .. NOT: no YARD'. */
    private static void driftLeastAndMost() {
        TannedMen x = Check.told("t1 1;" + MAN);
        CHECK.due("drift(1)", x.drift(1), 1);
        CHECK.due("drift(60)", x.drift(60), 61);
        CHECK.due("drift(59)", x.drift(59), 120);
        CHECK.due("drift(0)", x.drift(0), OUTSIDE);
        CHECK.due("drift(61)", x.drift(61), OUTSIDE);
        CHECK.due("months", x.told(5), 120);
        CHECK.due("new", new TannedMen().drift(1), NOT);
        CHECK.due("with a fault", Check.told("t1 1;t").drift(60), NOT);
        CHECK.due("a yard without men is one", Check.told("t1 1;").drift(60), 60);
    }

    /** Promise 16: 'FULL: MONTHS are above 9000.' */
    private static void driftFull() {
        CHECK.due("at 8999", at(8999).drift(1), 9000);
        CHECK.due("at 9000, by 1", at(9000).drift(1), 9001);
        CHECK.due("at 9000, by 60", at(9000).drift(60), 9060);
        TannedMen x = at(9001);
        x.seed(55);
        CHECK.due("at 9001", x.drift(1), FULL);
        CHECK.due("nothing was drawn", x.seed(0), 55);
    }

    // ---- promise 17

    /** 'NOT: none.' */
    private static void undoNone() {
        CHECK.due("new", new TannedMen().undo(), NOT);
        TannedMen x = Check.told("t1 1;" + MAN);
        CHECK.due("a yard", x.undo(), NOT);
        x.month(1);
        CHECK.due("one", x.undo(), 0);
        CHECK.due("none more", x.undo(), NOT);
        CHECK.due("months", x.told(5), 0);
    }

    /** 'the latest of month(), in(), out(), scrape(), say(), bark(), drift()': each is one. */
    private static void undoEachOnce() {
        Check.Call[] deeds = {
            x -> x.month(60), x -> x.in(1), x -> x.out(0), x -> x.scrape(0, 0, 2), x -> x.say(0, 0), x -> x.bark(9),
            x -> x.drift(60)
        };
        for (int i = 0; i < deeds.length; i++) {
            TannedMen x = Check.told("t2 4;m0 3,0,9,1,2;m3 5,5,5,5,5;s0 12;");
            x.in(0);
            x.month(1);
            String ahead = Check.seen(x);
            CHECK.holds("deed " + i, deeds[i].on(x) >= 0);
            CHECK.due("deed " + i + " is one", x.told(14), 3);
            CHECK.holds("deed " + i + " shows", !ahead.equals(Check.seen(x)));
            CHECK.due("deed " + i + " is undone", x.undo(), 2);
            CHECK.holds("as ahead of deed " + i, ahead.equals(Check.seen(x)));
        }
    }

    /** 'all of section 2', of each of six men. */
    private static void undoOfSixMen() {
        TannedMen x = Check.told("t3 1;" + "m0 1,2,3,4,5;".repeat(6) + SAYING);
        x.in(1);
        x.in(5);
        x.month(1);
        String ahead = Check.seen(x);
        x.month(1);
        for (int m = 0; m < 6; m++) {
            x.say(0, m);
            x.scrape(m, 4, m % 5 + 1);
        }
        for (int left = 15; left >= 3; left--) {
            CHECK.due("undo()", x.undo(), left);
        }
        CHECK.holds("as ahead of them", ahead.equals(Check.seen(x)));
    }

    /** '(16 at most are kept, the oldest are lost)'. */
    private static void undoSixteenAtMost() {
        for (int deeds = 15; deeds <= 18; deeds++) {
            TannedMen x = Check.told("t1 1;" + MAN);
            for (int i = 0; i < deeds; i++) {
                x.month(1);
            }
            int kept = Math.min(16, deeds);
            CHECK.due("of " + deeds, x.told(14), kept);
            for (int left = kept - 1; left >= 0; left--) {
                CHECK.due("of " + deeds, x.undo(), left);
                CHECK.due("months of " + deeds, x.told(5), deeds - kept + left);
            }
            CHECK.due("of " + deeds, x.undo(), NOT);
            CHECK.due("months of " + deeds, x.told(5), deeds - kept);
        }
    }

    /** The same again and again: undone, done, the oldest lost. */
    private static void undoRoundAndRound() {
        TannedMen x = Check.told("t1 1;" + MAN);
        for (int round = 0; round < 4; round++) {
            int first = x.told(5);
            for (int i = 0; i < 21; i++) {
                x.month(1);
            }
            for (int i = 0; i < 7; i++) {
                x.undo();
            }
            CHECK.due("14 of 21, round " + round, x.told(5), first + 14);
            CHECK.due("9 of 16, round " + round, x.told(14), 9);
            for (int i = 0; i < 9; i++) {
                x.undo();
            }
            CHECK.due("5 of 21, round " + round, x.told(5), first + 5);
            CHECK.due("none, round " + round, x.undo(), NOT);
        }
    }

    /** '.. that was not refused'. */
    private static void undoNothingRefused() {
        TannedMen x = Check.told("t1 1;" + MAN.repeat(2) + SAYING);
        x.in(0);
        x.month(0);
        x.month(61);
        x.in(0);
        x.in(1);
        x.in(2);
        x.out(1);
        x.scrape(0, 0, 1);
        x.scrape(0, 0, 0);
        x.say(1, 0);
        x.bark(0);
        x.bark(10);
        x.drift(0);
        x.drift(61);
        CHECK.due("one alone", x.told(14), 1);
        CHECK.due("undo()", x.undo(), 0);
        CHECK.due("who is in", x.told(6), 0);
    }

    /** What is looked at, tried, heard, written, fed, drawn by is not undone. */
    private static void undoNothingTried() {
        TannedMen x = Check.told("t1 1;" + MAN.repeat(2) + SAYING);
        x.month(1);
        x.feed('t');
        x.hurt(0, 0);
        x.thick(0, 0, 9);
        x.when(0, 0, 0);
        x.edge(0, 1, 1, 0);
        x.scraping(0, 1);
        x.through(9, 0);
        x.over(0, 1);
        x.quiet(1, 1);
        x.hear(0, 0, 1);
        x.stays(0, 0);
        x.ask(0);
        x.write(0, 1);
        x.judge();
        x.seed(8);
        CHECK.due("one alone", x.told(14), 1);
        CHECK.due("undo()", x.undo(), 0);
        CHECK.due("months", x.told(5), 0);
        CHECK.due("fed yet", x.told(4), 1);
        CHECK.due("heard yet", x.told(12), 1);
        CHECK.due("written yet", x.told(13), 1);
        CHECK.due("the seed yet", x.seed(0), 8);
        x.tear();
        CHECK.due("tear() is none", x.undo(), NOT);
        CHECK.due("nothing heard", x.told(12), 0);
    }

    /** 'The latest is undone: how many more can be': undo() itself is not. */
    private static void undoNotUndone() {
        TannedMen x = Check.told("t1 1;");
        x.bark(2);
        x.bark(3);
        x.bark(4);
        CHECK.due("undo()", x.undo(), 2);
        CHECK.due("bark", x.told(1), 3);
        CHECK.due("undo()", x.undo(), 1);
        CHECK.due("bark", x.told(1), 2);
        x.bark(9);
        CHECK.due("undo()", x.undo(), 1);
        CHECK.due("bark", x.told(1), 2);
        CHECK.due("undo()", x.undo(), 0);
        CHECK.due("bark", x.told(1), 1);
    }

    /** 'all of section 2 is as ahead of it; THE SEED stays'. */
    private static void undoLeavesTheSeed() {
        TannedMen x = Check.told("t1 1;" + MAN);
        int seed = Seeds.drawing(5, 4, 1, 0);
        x.seed(seed);
        x.drift(1);
        x.undo();
        CHECK.due("two draws on", x.seed(5), Seeds.behind(seed, 2));
        x.month(1);
        x.seed(6);
        x.undo();
        CHECK.due("what was set", x.seed(0), 6);
    }

    /** Promise 3: 'what could be undone are gone' by a yard, not by a fault. */
    private static void undoGoneByYard() {
        TannedMen x = Check.told("t1 1;");
        x.month(1);
        x.month(1);
        Check.feed(x, "x");
        x.yard();
        CHECK.due("a fault", x.told(14), 2);
        CHECK.due("a fault", x.undo(), 1);
        Check.feed(x, "t1 1;");
        x.yard();
        CHECK.due("a yard", x.told(14), 0);
        CHECK.due("a yard", x.undo(), NOT);
    }
}
