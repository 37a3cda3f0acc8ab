/** Promises 25 to 30, with HEARD, STAYS, ASK and THE BOOK of section 3, at their bounds: a method for each sentence. */
public final class BoundsHeardTest {
    private static final Check CHECK = new Check("BoundsHeardTest");
    private static final int NONE = TannedMen.NONE;
    private static final int UNKNOWN = TannedMen.UNKNOWN;
    private static final int OUTSIDE = TannedMen.OUTSIDE;
    private static final int FULL = TannedMen.FULL;
    private static final String MAN = "m0 0,0,0,0,0;";
    private static final String POET = "m2 0,0,0,0,0;";
    private static final String SMOKED = "m1 0,0,0,0,0;";
    private static final String SAYING = "s0 1;";

    public static void main(String[] args) {
        hearSixAtMost();
        hearLeastAndMost();
        hearRefused();
        hearIsKept();
        staysOfNothingHeard();
        staysAtFirst();
        staysAtLast();
        staysNone();
        staysOfHimAlone();
        staysAreOfAllHeard();
        staysFromTheFirst();
        staysToNinetyNine();
        staysRefused();
        askNone();
        askOfOneStay();
        askOfTwoStays();
        askLeastOfGreatestParts();
        askOfLikeOnes();
        askTheLastSaying();
        askWithinSixtyMonths();
        askFromTheFirst();
        askOneBehindTheOther();
        askRefused();
        writeFifteenAtMost();
        writeLeastAndMost();
        writeRefused();
        tearAllAndNothing();
        judgeNone();
        judgeFirstAndLast();
        judgeNow();
        CHECK.end();
    }

    private static void stays(String what, TannedMen x, int m, int many, int least, int greatest) {
        CHECK.due(what + ": how many", x.stays(m, 0), many);
        CHECK.due(what + ": the least", x.stays(m, 1), least);
        CHECK.due(what + ": the greatest", x.stays(m, 2), greatest);
    }

    private static TannedMen heard(String text, int... sayingsAndHurts) {
        TannedMen x = Check.told(text);
        for (int i = 0; i < sayingsAndHurts.length; i += 2) {
            x.hear(0, sayingsAndHurts[i], sayingsAndHurts[i + 1]);
        }
        return x;
    }

    // ---- promise 25

    /** 'HEARD (6 at most)', 'how much', 'FULL (6)'. */
    private static void hearSixAtMost() {
        TannedMen x = Check.told("t1 1;" + MAN.repeat(6) + SAYING.repeat(8));
        for (int i = 1; i <= 6; i++) {
            CHECK.due("hear, " + i, x.hear(6 - i, i, 0), i);
        }
        CHECK.due("a seventh", x.hear(0, 0, 0), FULL);
        CHECK.due("a seventh, of another", x.hear(5, 7, 99), FULL);
        CHECK.due("how much", x.told(12), 6);
        x.tear();
        CHECK.due("behind tear()", x.hear(0, 0, 0), 1);
        for (int i = 2; i <= 6; i++) {
            CHECK.due("the same again", x.hear(0, 0, 0), i);
        }
        CHECK.due("the same a seventh time", x.hear(0, 0, 0), FULL);
    }

    /** 'a SAYING HURT a told MAN by v (0 .. 99)'. */
    private static void hearLeastAndMost() {
        TannedMen x = Check.told("t1 1;" + MAN + SAYING);
        CHECK.due("by 0", x.hear(0, 0, 0), 1);
        CHECK.due("by 99", x.hear(0, 0, 99), 2);
        for (int v : new int[] {Integer.MIN_VALUE, -1, 100, Integer.MAX_VALUE}) {
            CHECK.due("by " + v, x.hear(0, 0, v), OUTSIDE);
        }
        CHECK.due("how much", x.told(12), 2);
    }

    /** Promise 25: 'UNKNOWN', of either. */
    private static void hearRefused() {
        TannedMen x = Check.told("t1 1;" + MAN.repeat(2) + SAYING.repeat(3));
        CHECK.due("the last of both", x.hear(1, 2, 0), 1);
        for (int off : new int[] {Integer.MIN_VALUE, -1, 3, Integer.MAX_VALUE}) {
            CHECK.due("man " + off, x.hear(off, 0, 0), UNKNOWN);
            CHECK.due("saying " + off, x.hear(0, off, 0), UNKNOWN);
        }
        CHECK.due("man 2", x.hear(2, 2, 0), UNKNOWN);
        CHECK.due("no yard", new TannedMen().hear(0, 0, 0), UNKNOWN);
        CHECK.due("no sayings", Check.told("t1 1;" + MAN).hear(0, 0, 0), UNKNOWN);
        CHECK.due("how much", x.told(12), 1);
    }

    /** All six are kept, the sixth as the first. */
    private static void hearIsKept() {
        for (int odd = 0; odd < 6; odd++) {
            TannedMen x = Check.told("t1 1;" + MAN + "s0 60;");
            for (int i = 0; i < 6; i++) {
                x.hear(0, 0, i == odd ? 50 : 0);
            }
            stays("number " + odd + " is otherwise", x, 0, 0, NONE, NONE);
        }
        stays("six alike", heard("t1 1;" + MAN + "s0 60;", 0, 50, 0, 50, 0, 50, 0, 50, 0, 50, 0, 50), 0, 1, 10, 10);
    }

    // ---- promise 26

    /** 'an unknown number of MONTHS (0 .. 60)': all 61, where nothing is HEARD. */
    private static void staysOfNothingHeard() {
        stays("nothing heard", Check.told("t1 1;" + MAN + SAYING), 0, 61, 0, 60);
        stays("no sayings", Check.told("t1 1;" + MAN), 0, 61, 0, 60);
        stays("the same behind all", heard("t1 1;" + SMOKED + "s2 9;", 0, 9), 0, 61, 0, 60);
    }

    /** Behind 0 alone. */
    private static void staysAtFirst() {
        stays("public", heard("t1 1;" + MAN + "s0 60;", 0, 60), 0, 1, 0, 0);
        stays("public, 90", heard("t1 1;m0 30,0,0,0,0;s0 60;", 0, 90), 0, 1, 0, 0);
        stays("a poet", heard("t1 1;" + POET + "s0 60;", 0, 60), 0, 1, 0, 0);
        stays("a poet, place 1: 0 and 1", heard("t1 1;" + POET + "s1 60;", 0, 60), 0, 2, 0, 1);
    }

    /** Behind 60 alone: a poet is 12 thick in place 4 then, 11 a month ahead. */
    private static void staysAtLast() {
        stays("a poet", heard("t1 1;" + POET + "s4 60;", 0, 48), 0, 1, 60, 60);
        stays("a poet, place 3: 59 and 60", heard("t1 1;" + POET + "s3 60;", 0, 48), 0, 2, 59, 60);
        stays("public, 60 less 60", heard("t1 1;" + MAN + "s0 60;", 0, 0), 0, 1, 60, 60);
        stays("public, 60 less 59", heard("t1 1;" + MAN + "s0 60;", 0, 1), 0, 1, 59, 59);
    }

    /** '.. NONE': what would be behind 61, what never is. */
    private static void staysNone() {
        stays("a poet behind 61", heard("t1 1;" + POET + "s0 60;", 0, 47), 0, 0, NONE, NONE);
        stays("public behind 61", heard("t1 1;m0 1,0,0,0,0;s0 60;", 0, 0), 0, 0, NONE, NONE);
        stays("between two months", heard("t1 9;" + MAN + "s0 60;", 0, 50), 0, 0, NONE, NONE);
        stays("more than anything hurts", heard("t1 1;m0 30,0,0,0,0;s0 60;", 0, 99), 0, 0, NONE, NONE);
        stays("of two hurts", heard("t1 1;" + MAN + "s0 60;", 0, 50, 0, 49), 0, 0, NONE, NONE);
    }

    /** 'STAYS of a MAN: those by which all that is HEARD of him is so': what is of others is nothing to it. */
    private static void staysOfHimAlone() {
        TannedMen x = Check.told("t1 1;" + MAN.repeat(6) + "s0 60;");
        for (int m = 0; m < 6; m++) {
            x.hear(m, 0, 60 - m);
        }
        for (int m = 0; m < 6; m++) {
            stays("man " + m, x, m, 1, m, m);
        }
    }

    /** '.. all that is HEARD'. */
    private static void staysAreOfAllHeard() {
        String text = "t1 1;" + POET + "s0 60;s1 60;s2 60;s3 60;s4 60;";
        stays("place 0", heard(text, 0, 58), 0, 5, 6, 10);
        stays("places 0, 1", heard(text, 0, 58, 1, 58), 0, 4, 7, 10);
        stays("places 0, 1, 3", heard(text, 0, 58, 1, 58, 3, 58), 0, 2, 9, 10);
        stays("places 0, 1, 4", heard(text, 0, 58, 1, 58, 4, 59), 0, 3, 7, 9);
        stays("places 0, 3, 4", heard(text, 0, 58, 3, 58, 4, 59), 0, 1, 9, 9);
        stays("places 0, 3, 4, which do not agree", heard(text, 0, 58, 3, 59, 4, 58), 0, 0, NONE, NONE);
    }

    /** 'from the first (MONTH 0, THICK by 0; SOFT, KIND, BARK as the text told)'. */
    private static void staysFromTheFirst() {
        TannedMen x = Check.told("t1 2;m0 9,0,0,0,0;" + POET + "s0 60;");
        x.in(0);
        x.month(3);
        x.bark(9);
        x.scrape(0, 0, 9);
        x.hear(0, 0, 69);
        x.hear(1, 0, 59);
        stays("public, at first", x, 0, 1, 0, 0);
        stays("a poet, by month 0", x, 1, 5, 1, 5);
        TannedMen y = Check.told("t1 2;m0 9,0,0,0,0;s0 60;");
        y.bark(9);
        y.hear(0, 0, 67);
        stays("bark as the text told", y, 0, 1, 1, 1);
        CHECK.due("bark that is now", y.told(1), 9);
    }

    /** THICK is to 99 there, too. */
    private static void staysToNinetyNine() {
        stays("by 9: 99 from 11 on", heard("t1 9;m0 30,0,0,0,0;s0 60;", 0, 0), 0, 51, 10, 60);
        stays("old by 27", heard("t1 9;m3 30,0,0,0,0;s0 60;", 0, 9), 0, 5, 11, 15);
        stays("old by 27, cut", heard("t1 9;m3 30,0,0,0,0;s0 60;", 0, 0), 0, 45, 16, 60);
    }

    /** Promise 26: 'UNKNOWN, OUTSIDE.' */
    private static void staysRefused() {
        TannedMen x = Check.told("t1 1;" + MAN.repeat(6) + SAYING);
        for (int off : new int[] {Integer.MIN_VALUE, -1, 6, Integer.MAX_VALUE}) {
            CHECK.due("man " + off, x.stays(off, 0), UNKNOWN);
            CHECK.due("what " + off, x.stays(0, off), OUTSIDE);
        }
        CHECK.due("what 3", x.stays(5, 3), OUTSIDE);
        CHECK.due("man 5", x.stays(5, 2), 60);
    }

    // ---- promise 27

    /** 'ASK: .. NONE: none parts them.' */
    private static void askNone() {
        CHECK.due("no sayings", Check.told("t1 1;" + MAN).ask(0), NONE);
        CHECK.due("never thicker", Check.told("t1 9;" + SMOKED + "s2 60;".repeat(8)).ask(0), NONE);
        CHECK.due("felt no more", heard("t1 9;" + MAN + "s0 1;s1 2;s2 9;", 0, 0).ask(0), NONE);
        CHECK.due("one parts 0 from all else", Check.told("t1 9;" + MAN + "s0 1;").ask(0), 0);
    }

    /** The same of one number of MONTHS, or of none: nothing is to be told apart. */
    private static void askOfOneStay() {
        TannedMen one = heard("t1 1;" + MAN + "s0 60;s1 60;", 0, 50);
        CHECK.due("one", one.stays(0, 0), 1);
        CHECK.due("one", one.ask(0), NONE);
        TannedMen none = heard("t1 1;" + MAN + "s0 60;s1 60;", 0, 99);
        CHECK.due("none", none.stays(0, 0), 0);
        CHECK.due("none", none.ask(0), NONE);
    }

    /** Of two, the first and the last that there can be. */
    private static void askOfTwoStays() {
        TannedMen last = heard("t1 1;" + POET + "s3 60;s2 60;s4 60;", 0, 48);
        stays("59 and 60", last, 0, 2, 59, 60);
        CHECK.due("59 and 60", last.ask(0), 2);
        TannedMen first = heard("t1 1;" + POET + "s1 60;s2 60;s0 60;", 0, 60);
        stays("0 and 1", first, 0, 2, 0, 1);
        CHECK.due("0 and 1", first.ask(0), 2);
    }

    /** 'the greatest part that is alike is least'. */
    private static void askLeastOfGreatestParts() {
        // by 4 a month, of hurts 88, 90, 87: nothing is felt from 22, 23, 22 on: 39, 38, 39 of 61 alike
        CHECK.due("39, 38, 39", Check.told("t1 4;m0 30,0,0,0,0;s0 58;s0 60;s0 57;").ask(0), 1);
        // a poet in place 2: parts of 3, 5, .. 5, 3; sharp by 12 the last of them is 3; by 11 it is 5 and 3
        CHECK.due("8, 5", Check.told("t1 4;" + POET + "s2 11;s2 12;").ask(0), 1);
        // a poet, sharp by 7 in place 0: behind 31 to 60 nothing is felt; place 4 has no part above 5
        CHECK.due("30, 5", Check.told("t1 2;" + POET + "s0 7;s4 60;").ask(0), 1);
    }

    /** '.. of like ones the least'. */
    private static void askOfLikeOnes() {
        CHECK.due("eight alike", Check.told("t1 1;" + MAN + "s0 60;".repeat(8)).ask(0), 0);
        CHECK.due("two alike", Check.told("t1 4;m0 30,0,0,0,0;s0 1;s0 59;s0 60;s0 2;").ask(0), 1);
        CHECK.due("two alike, of two places", Check.told("t1 1;" + POET + "s0 1;s4 60;s0 60;").ask(0), 1);
    }

    /** The last saying may be the best, and the last man be asked of. */
    private static void askTheLastSaying() {
        TannedMen x = Check.told("t1 1;" + SMOKED.repeat(6) + "s2 60;".repeat(7) + "s0 60;");
        CHECK.due("the eighth", x.ask(5), 7);
        CHECK.due("the eighth", x.ask(0), 7);
    }

    /** 'an unknown number of MONTHS (0 .. 60)': 61, which would be parted from 60, is none of those that are told apart. */
    private static void askWithinSixtyMonths() {
        TannedMen last = heard("t1 1;" + POET + "s4 60;s0 60;", 0, 48);
        stays("60 alone", last, 0, 1, 60, 60);
        CHECK.due("60 alone", last.ask(0), NONE);
        // by 1 a month, of hurts 60, 61: no two numbers to 60 are alike; 60 and 61 would be by the first
        CHECK.due("1, 1", Check.told("t1 1;m0 1,0,0,0,0;s1 60;s0 60;").ask(0), 0);
    }

    /** 'from the first (MONTH 0, THICK by 0; SOFT, KIND, BARK as the text told)', in ASK, too. */
    private static void askFromTheFirst() {
        TannedMen soft = Check.told("t1 9;m0 30,0,0,0,0;s1 60;s0 60;");
        CHECK.due("54, 51", soft.ask(0), 1);
        soft.scrape(0, 0, 30);
        CHECK.due("soft as told", soft.ask(0), 1);
        TannedMen bark = Check.told("t1 1;m0 0,30,0,0,0;s0 60;s1 60;");
        CHECK.due("1, 1", bark.ask(0), 0);
        bark.bark(9);
        CHECK.due("bark as told", bark.ask(0), 0);
        TannedMen months = heard("t1 1;" + POET + "s4 60;s0 60;", 0, 48);
        months.month(1);
        CHECK.due("from month 0", months.ask(0), NONE);
        TannedMen thick = Check.told("t1 1;m0 0,30,0,0,0;s0 60;s1 60;");
        thick.in(0);
        thick.month(9);
        CHECK.due("thick by 0", thick.ask(0), 0);
    }

    /** Nothing of one ASK is left in the next. */
    private static void askOneBehindTheOther() {
        TannedMen x = Check.told("t1 1;" + MAN + SMOKED + POET + "s2 60;s0 60;s4 60;");
        for (int round = 0; round < 3; round++) {
            CHECK.due("public: the first of three alike", x.ask(0), 0);
            CHECK.due("smoked: place 2 parts nothing", x.ask(1), 1);
            CHECK.due("a poet: 5 at most in each", x.ask(2), 0);
        }
        x.hear(0, 0, 10);
        CHECK.due("one stay", x.ask(0), NONE);
        CHECK.due("smoked as ever", x.ask(1), 1);
        CHECK.due("one stay still", x.ask(0), NONE);
        x.hear(2, 1, 58);
        CHECK.due("a poet, 6 to 10: 6, 7 | 8, 9, 10", x.ask(2), 0);
        x.hear(2, 0, 58);
        CHECK.due("a poet, 8 to 10: 8, 9 | 10", x.ask(2), 2);
        x.hear(2, 2, 58);
        CHECK.due("a poet, 10", x.ask(2), NONE);
        x.tear();
        CHECK.due("all again", x.ask(0), 0);
        CHECK.due("all again", x.ask(2), 0);
    }

    /** Promise 27: 'UNKNOWN.' */
    private static void askRefused() {
        TannedMen x = Check.told("t1 1;" + MAN.repeat(2) + SAYING);
        for (int m : new int[] {Integer.MIN_VALUE, -1, 2, 6, Integer.MAX_VALUE}) {
            CHECK.due("man " + m, x.ask(m), UNKNOWN);
        }
        CHECK.due("no yard", new TannedMen().ask(0), UNKNOWN);
    }

    // ---- promises 28 to 30

    /** 'THE BOOK (15 at most)', 'how many', 'FULL (15)'. */
    private static void writeFifteenAtMost() {
        TannedMen x = Check.told("t1 1;" + MAN.repeat(6));
        for (int i = 1; i <= 15; i++) {
            CHECK.due("write, " + i, x.write(i % 6, i), i);
        }
        CHECK.due("a sixteenth", x.write(0, 0), FULL);
        CHECK.due("entries", x.told(13), 15);
        x.tear();
        CHECK.due("behind tear()", x.write(0, 0), 1);
    }

    /** 'An entry behind THE BOOK (0 .. 99999)'. */
    private static void writeLeastAndMost() {
        TannedMen x = Check.told("t1 1;" + MAN);
        CHECK.due("0", x.write(0, 0), 1);
        CHECK.due("99999", x.write(0, 99999), 2);
        for (int wounds : new int[] {Integer.MIN_VALUE, -1, 100000, Integer.MAX_VALUE}) {
            CHECK.due("wounds " + wounds, x.write(0, wounds), OUTSIDE);
        }
        CHECK.due("entries", x.told(13), 2);
    }

    /** Promise 28: 'UNKNOWN.' */
    private static void writeRefused() {
        TannedMen x = Check.told("t1 1;" + MAN.repeat(2));
        for (int m : new int[] {Integer.MIN_VALUE, -1, 2, 6, Integer.MAX_VALUE}) {
            CHECK.due("man " + m, x.write(m, 0), UNKNOWN);
        }
        CHECK.due("man 1", x.write(1, 0), 1);
        CHECK.due("no yard", new TannedMen().write(0, 0), UNKNOWN);
    }

    /** 'Nothing HEARD, THE BOOK is empty: how much both had.' */
    private static void tearAllAndNothing() {
        CHECK.due("no yard", new TannedMen().tear(), 0);
        TannedMen x = Check.told("t1 1;" + MAN + "s0 60;");
        CHECK.due("nothing", x.tear(), 0);
        x.hear(0, 0, 50);
        CHECK.due("heard alone", x.tear(), 1);
        x.write(0, 50);
        CHECK.due("written alone", x.tear(), 1);
        for (int i = 0; i < 16; i++) {
            x.hear(0, 0, 50);
            x.write(0, 50);
        }
        CHECK.due("6 and 15", x.tear(), 21);
        CHECK.due("heard", x.told(12), 0);
        CHECK.due("entries", x.told(13), 0);
        stays("nothing heard", x, 0, 61, 0, 60);
        CHECK.due("nothing wrong", x.judge(), NONE);
        CHECK.due("twice", x.tear(), 0);
    }

    /** 'WRONG; NONE': of an empty book, of one that is right. */
    private static void judgeNone() {
        CHECK.due("no yard", new TannedMen().judge(), NONE);
        TannedMen x = Check.told("t1 1;" + MAN.repeat(2) + "s0 7;");
        CHECK.due("empty", x.judge(), NONE);
        x.say(0, 1);
        for (int i = 0; i < 15; i++) {
            x.write(i % 2, 7 * (i % 2));
            CHECK.due("right, " + i, x.judge(), NONE);
        }
    }

    /** 'WRONG: the first that is otherwise now': entries are 0 to 14. */
    private static void judgeFirstAndLast() {
        for (int wrong = 0; wrong < 15; wrong++) {
            TannedMen x = Check.told("t1 1;" + MAN.repeat(2) + "s0 7;");
            for (int i = 0; i < 15; i++) {
                x.write(i % 2, i < wrong ? 0 : i == wrong ? 1 : i % 3);
            }
            CHECK.due("entry " + wrong, x.judge(), wrong);
        }
        TannedMen y = Check.told("t1 1;" + MAN);
        y.write(0, 99999);
        CHECK.due("the first of one", y.judge(), 0);
    }

    /** '.. now': not as it was when it was written. */
    private static void judgeNow() {
        TannedMen x = Check.told("t1 1;" + MAN + "s0 7;");
        x.write(0, 0);
        x.write(0, 7);
        CHECK.due("0 wounds", x.judge(), 1);
        x.say(0, 0);
        CHECK.due("7 wounds", x.judge(), 0);
        x.undo();
        CHECK.due("0 wounds again", x.judge(), 1);
    }
}
