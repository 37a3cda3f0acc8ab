/** Promises 25 to 30: what is heard, what is written. */
public final class HeardTest {
    private static final Check CHECK = new Check("HeardTest");
    private static final int[] FAR = {Integer.MIN_VALUE, -1, 2, Integer.MAX_VALUE};

    public static void main(String[] args) {
        hear();
        stays();
        staysFromTheFirst();
        ask();
        askPoet();
        write();
        tear();
        judge();
        CHECK.end();
    }

    private static void hear() {
        TannedMen x = Check.told("t1 4;m0 0,0,0,0,0;m0 0,0,0,0,0;s0 9;s1 9;");
        for (int off : FAR) {
            CHECK.due("man " + off, x.hear(off, 0, 100), TannedMen.UNKNOWN);
            CHECK.due("saying " + off, x.hear(0, off, 100), TannedMen.UNKNOWN);
        }
        CHECK.refused("hurt -1", x, o -> o.hear(0, 0, -1), TannedMen.OUTSIDE);
        CHECK.refused("hurt 100", x, o -> o.hear(0, 0, 100), TannedMen.OUTSIDE);
        CHECK.due("hear(0, 0, 0)", x.hear(0, 0, 0), 1);
        CHECK.due("hear(1, 1, 99)", x.hear(1, 1, 99), 2);
        for (int n = 3; n <= 6; n++) {
            CHECK.due("hear", x.hear(1, 0, 5), n);
        }
        CHECK.refused("a seventh", x, o -> o.hear(0, 0, 0), TannedMen.FULL);
        CHECK.due("outside ahead of full", x.hear(0, 0, 100), TannedMen.OUTSIDE);
        CHECK.due("unknown ahead of outside", x.hear(2, 0, 100), TannedMen.UNKNOWN);
        CHECK.due("how much", x.told(12), 6);
    }

    private static void spans(String what, TannedMen x, int m, int many, int least, int greatest) {
        CHECK.due(what + ": how many", x.stays(m, 0), many);
        CHECK.due(what + ": least", x.stays(m, 1), least);
        CHECK.due(what + ": greatest", x.stays(m, 2), greatest);
    }

    private static void stays() {
        // man 0 thickens by 4 a month; man 1, a poet, by 1 in place 0 at 1, 6, 11 .. months
        TannedMen x = Check.told("t1 4;m0 3,0,9,1,2;m2 0,0,0,0,0;s0 12;s4 30;");
        spans("nothing heard", x, 0, 61, 0, 60);
        x.hear(0, 0, 0);
        spans("no hurt", x, 0, 57, 4, 60);
        spans("of the other nothing", x, 1, 61, 0, 60);
        x.hear(0, 1, 4);
        spans("32 less 28", x, 0, 1, 7, 7);
        x.hear(0, 1, 8);
        spans("it does not fit", x, 0, 0, TannedMen.NONE, TannedMen.NONE);
        x.hear(1, 0, 10);
        spans("a poet", x, 1, 5, 6, 10);
        x.tear();
        x.hear(1, 0, 12);
        spans("a poet, at first", x, 1, 1, 0, 0);
        x.tear();
        x.hear(1, 0, 0);
        spans("a poet, at last", x, 1, 5, 56, 60);
        x.tear();
        x.hear(1, 1, 99);
        spans("nobody hurts so", x, 1, 0, TannedMen.NONE, TannedMen.NONE);
        for (int off : FAR) {
            CHECK.due("man " + off, x.stays(off, 3), TannedMen.UNKNOWN);
        }
        CHECK.due("what -1", x.stays(0, -1), TannedMen.OUTSIDE);
        CHECK.due("what 3", x.stays(0, 3), TannedMen.OUTSIDE);
    }

    /** Neither months, thickness, bark nor scraping of the yard count: it's as the text told. */
    private static void staysFromTheFirst() {
        TannedMen x = Check.told("t1 4;m0 3,0,9,1,2;m2 0,0,0,0,0;s0 12;s4 30;");
        x.hear(0, 0, 7);
        x.hear(1, 0, 10);
        x.in(0);
        x.month(3);
        x.bark(9);
        x.scrape(0, 0, 3);
        spans("public", x, 0, 1, 2, 2);
        spans("poet", x, 1, 5, 6, 10);
        CHECK.due("ask", x.ask(1), 1);
        x.keep(0);
        x.goBack(0);
        CHECK.due("images leave what is heard", x.told(12), 2);
    }

    private static void ask() {
        // by 4 a month: saying 0 (sharp 3) parts 0 from all else, 1 (sharp 41) 11 stays from 50
        TannedMen x = Check.told("t1 4;m0 0,0,0,0,0;m0 0,0,0,0,0;s0 3;s1 41;s2 41;s1 1;");
        CHECK.due("the least of like ones", x.ask(0), 1);
        x.hear(0, 1, 0);
        CHECK.due("none parts what is not felt", x.ask(0), TannedMen.NONE);
        CHECK.due("of the other as ever", x.ask(1), 1);
        x.hear(1, 3, 0);
        CHECK.due("1 to 60 months", x.ask(1), 1);
        x.hear(1, 1, 1);
        CHECK.due("one alone", x.stays(1, 0), 1);
        CHECK.due("one is not parted", x.ask(1), TannedMen.NONE);
        x.hear(1, 1, 2);
        CHECK.due("none at all", x.stays(1, 0), 0);
        CHECK.due("none is not parted", x.ask(1), TannedMen.NONE);
        CHECK.due("no sayings", Check.told("t1 4;m0 0,0,0,0,0;").ask(0), TannedMen.NONE);
        for (int off : FAR) {
            CHECK.due("man " + off, x.ask(off), TannedMen.UNKNOWN);
        }
    }

    private static void askPoet() {
        // 5 stays a part in each place: place 0 has 0 | 1-5 | .. | 56-60, place 2 has 0-2 | .. | 58-60
        TannedMen x = Check.told("t1 9;m2 0,0,0,0,0;s2 4;s2 60;s0 60;");
        CHECK.due("5 is the greatest part by sayings 1 and 2", x.ask(0), 1);
        x.hear(0, 2, 58);
        // stays 6 to 10: place 2 parts 6, 7 from 8, 9, 10; place 0 does not
        CHECK.due("6 to 10", x.stays(0, 1), 6);
        CHECK.due("6 to 10", x.stays(0, 2), 10);
        CHECK.due("parted by place 2", x.ask(0), 0);
        TannedMen last = Check.told("t1 9;m2 0,0,0,0,0;s3 60;s4 60;");
        last.hear(0, 0, 48);
        spans("59, 60", last, 0, 2, 59, 60);
        CHECK.due("59 is parted from 60 by place 4", last.ask(0), 1);
        TannedMen first = Check.told("t1 9;m2 0,0,0,0,0;s1 60;s0 60;");
        first.hear(0, 0, 60);
        spans("0, 1", first, 0, 2, 0, 1);
        CHECK.due("0 is parted from 1 by place 0", first.ask(0), 1);
    }

    private static void write() {
        TannedMen x = Check.told("t1 4;m0 0,0,0,0,0;m0 0,0,0,0,0;s0 9;s1 9;");
        for (int off : FAR) {
            CHECK.due("man " + off, x.write(off, -1), TannedMen.UNKNOWN);
        }
        CHECK.refused("wounds -1", x, o -> o.write(0, -1), TannedMen.OUTSIDE);
        CHECK.refused("wounds 100000", x, o -> o.write(0, 100000), TannedMen.OUTSIDE);
        CHECK.due("write(0, 0)", x.write(0, 0), 1);
        CHECK.due("write(1, 99999)", x.write(1, 99999), 2);
        for (int n = 3; n <= 15; n++) {
            CHECK.due("write", x.write(1, n), n);
        }
        CHECK.refused("a sixteenth", x, o -> o.write(0, 0), TannedMen.FULL);
        CHECK.due("outside ahead of full", x.write(0, -1), TannedMen.OUTSIDE);
        CHECK.due("how many", x.told(13), 15);
    }

    private static void tear() {
        TannedMen x = Check.told("t1 4;m0 0,0,0,0,0;s0 9;");
        CHECK.due("nothing", x.tear(), 0);
        for (int i = 0; i < 6; i++) {
            x.hear(0, 0, 77);
        }
        for (int i = 0; i < 15; i++) {
            x.write(0, 77);
        }
        CHECK.due("all", x.tear(), 21);
        CHECK.due("heard", x.told(12), 0);
        CHECK.due("written", x.told(13), 0);
        CHECK.due("nothing is heard", x.stays(0, 0), 61);
        CHECK.due("nothing is wrong", x.judge(), TannedMen.NONE);
        CHECK.due("again", x.tear(), 0);
        CHECK.due("there is room", x.hear(0, 0, 1), 1);
        CHECK.due("there is room", x.write(0, 1), 1);
        CHECK.due("both", x.tear(), 2);
    }

    private static void judge() {
        TannedMen x = Check.told("t1 4;m0 0,0,0,0,0;m0 1,0,0,0,0;s0 9;");
        CHECK.due("no book", x.judge(), TannedMen.NONE);
        x.write(0, 0);
        x.write(1, 10);
        x.write(0, 9);
        CHECK.due("1 has none", x.judge(), 1);
        x.say(0, 1);
        CHECK.due("0 has none", x.judge(), 2);
        x.say(0, 0);
        CHECK.due("0 has some", x.judge(), 0);
        x.undo();
        CHECK.due("0 has none", x.judge(), 2);
        x.tear();
        x.write(1, 10);
        x.write(0, 0);
        CHECK.due("all is so", x.judge(), TannedMen.NONE);
    }
}
