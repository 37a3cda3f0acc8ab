/** Section 1 and promises 1 to 4 at their bounds: a method for each sentence, which it quotes. */
public final class BoundsTextTest {
    private static final Check CHECK = new Check("BoundsTextTest");
    private static final int CANNOT_STAND = 1;
    private static final int BAD_NUMBER = 2;
    private static final int TOO_MANY = 3;
    private static final int LETTERS = 240;
    private static final String HEAD = "t1 1;";
    private static final String MAN = "m0 0,0,0,0,0;";
    private static final String SAYING = "s0 1;";
    private static final String WHOLE = HEAD + MAN.repeat(6) + SAYING.repeat(8);

    public static void main(String[] args) {
        textOf240Letters();
        letter241();
        pits();
        bark();
        yardFirst();
        yardOnce();
        sixMen();
        kinds();
        fiveNumbers();
        soft();
        eightSayings();
        places();
        sharp();
        figures();
        wordsOfOneLetter();
        blanksAnywhere();
        noBlanksWithinNumbers();
        blankIs32();
        numbersSideBySide();
        firstLetterWithAFault();
        endOfTheText();
        leastOfFaults();
        noWord();
        noFirstWord();
        noNumber();
        noSemicolon();
        noComma();
        numberAtItsFirst();
        tooManyAtTheWord();
        emptyText();
        emptyTextBehindAYard();
        newObject();
        feedEachLetter();
        feedOutside();
        yardAnswersMen();
        yardEmptiesTheText();
        yardIsNew();
        yardWithFewer();
        yardWithAFault();
        faultOfTheLatest();
        CHECK.end();
    }

    private static void good(String text, int men) {
        TannedMen x = Check.fed(text);
        CHECK.due("yard of '" + text + "'", x.yard(), men);
        CHECK.due("fault of '" + text + "'", x.fault(), TannedMen.NONE);
    }

    private static void bad(String text, int kind, int at) {
        TannedMen x = Check.fed(text);
        CHECK.due("yard of '" + text + "'", x.yard(), -10 - kind);
        CHECK.due("fault of '" + text + "'", x.fault(), at);
    }

    private static void goodOrBad(boolean isGood, String text, int men, int kind, int at) {
        if (isGood) {
            good(text, men);
        } else {
            bad(text, kind, at);
        }
    }

    private static String blanks(int upTo, String text) {
        return " ".repeat(upTo - text.length());
    }

    // ---- section 1

    /** 'a text (240 letters at most)': with the last letter needed, and with it a fault. */
    private static void textOf240Letters() {
        good(WHOLE + blanks(LETTERS, WHOLE), 6);
        good(blanks(LETTERS, WHOLE) + WHOLE, 6);
        bad(HEAD + blanks(LETTERS - 1, HEAD) + "x", CANNOT_STAND, 239);
        bad("t1 1" + blanks(LETTERS, "t1 1"), CANNOT_STAND, 240);
    }

    /** '240 letters at most': one more does not come behind the text. */
    private static void letter241() {
        TannedMen x = Check.fed(WHOLE + blanks(LETTERS, WHOLE));
        CHECK.due("a letter more", x.feed('x'), TannedMen.FULL);
        CHECK.due("letters", x.told(4), 240);
        CHECK.due("yard()", x.yard(), 6);
        CHECK.due("fault()", x.fault(), TannedMen.NONE);
        TannedMen y = Check.fed(blanks(LETTERS, HEAD) + "t1 1");
        CHECK.due("the mark at last", y.feed(';'), 240);
        CHECK.due("it is there", y.yard(), 0);
        CHECK.due("pits", y.told(0), 1);
        TannedMen z = Check.fed(blanks(LETTERS + 1, HEAD) + "t1 1");
        CHECK.due("the mark behind the last", z.feed(';'), TannedMen.FULL);
        CHECK.due("it is not there", z.yard(), -11);
        CHECK.due("its end", z.fault(), 240);
    }

    /** 'PITS P, 1 .. 3'. */
    private static void pits() {
        for (int p = 0; p <= 10; p++) {
            String text = "t" + p + " 5;";
            goodOrBad(p >= 1 && p <= 3, text, 0, BAD_NUMBER, 1);
            CHECK.due("pits of '" + text + "'", Check.told(text).told(0), p >= 1 && p <= 3 ? p : 0);
        }
        bad("t999 5;", BAD_NUMBER, 1);
    }

    /** 'BARK B, 1 .. 9'. */
    private static void bark() {
        for (int b = 0; b <= 11; b++) {
            String text = "t2 " + b + ";";
            goodOrBad(b >= 1 && b <= 9, text, 0, BAD_NUMBER, 3);
            CHECK.due("bark of '" + text + "'", Check.told(text).told(1), b >= 1 && b <= 9 ? b : 0);
        }
        bad("t2 999;", BAD_NUMBER, 3);
    }

    /** 't' is 'first'. */
    private static void yardFirst() {
        bad(MAN, CANNOT_STAND, 0);
        bad(SAYING, CANNOT_STAND, 0);
        bad(" " + MAN + HEAD, CANNOT_STAND, 1);
        bad(SAYING + HEAD, CANNOT_STAND, 0);
    }

    /** 't' is told 'once'. */
    private static void yardOnce() {
        good(HEAD, 0);
        bad(HEAD + HEAD, TOO_MANY, 5);
        bad(HEAD + MAN + HEAD, TOO_MANY, 18);
        bad(HEAD + SAYING + " " + HEAD, TOO_MANY, 11);
    }

    /** '6 MEN at most', a fault is 'a seventh m'. */
    private static void sixMen() {
        for (int men = 0; men <= 6; men++) {
            good(HEAD + MAN.repeat(men), men);
        }
        bad(HEAD + MAN.repeat(7), TOO_MANY, 5 + 6 * 13);
        bad(HEAD + SAYING + MAN.repeat(6) + SAYING + MAN, TOO_MANY, 5 + 5 + 6 * 13 + 5);
    }

    /** 'KIND K, 0 .. 3'. */
    private static void kinds() {
        for (int kind = 0; kind <= 10; kind++) {
            String text = HEAD + "m" + kind + " 0,0,0,0,0;";
            goodOrBad(kind <= 3, text, 1, BAD_NUMBER, 6);
            CHECK.due("kind of '" + text + "'", Check.told(text).man(0, 0), kind <= 3 ? kind : TannedMen.UNKNOWN);
        }
    }

    /** 'five numbers': not four, not six, not none. */
    private static void fiveNumbers() {
        bad(HEAD + "m0;", CANNOT_STAND, 7);
        bad(HEAD + "m0 0;", CANNOT_STAND, 9);
        bad(HEAD + "m0 0,0;", CANNOT_STAND, 11);
        bad(HEAD + "m0 0,0,0;", CANNOT_STAND, 13);
        bad(HEAD + "m0 0,0,0,0;", CANNOT_STAND, 15);
        good(HEAD + "m0 0,0,0,0,0;", 1);
        bad(HEAD + "m0 0,0,0,0,0,0;", CANNOT_STAND, 17);
        bad(HEAD + "m0 0,0,0,0,0 0;", CANNOT_STAND, 18);
    }

    /** 'SOFT in PLACES 0 to 4, 0 .. 30 each'. */
    private static void soft() {
        for (int place = 0; place < 5; place++) {
            for (int soft : new int[] {0, 1, 29, 30, 31, 99, 300}) {
                StringBuilder text = new StringBuilder(HEAD + "m0 ");
                for (int p = 0; p < 5; p++) {
                    text.append(p > 0 ? "," : "").append(p == place ? soft : 7);
                }
                text.append(';');
                goodOrBad(soft <= 30, text.toString(), 1, BAD_NUMBER, 8 + 2 * place);
                int due = soft <= 30 ? soft : TannedMen.UNKNOWN;
                CHECK.due("soft in " + place + " of '" + text + "'", Check.told(text.toString()).skin(0, place, 0), due);
            }
        }
    }

    /** '8 SAYINGS at most', a fault is 'a ninth s'. */
    private static void eightSayings() {
        for (int sayings = 0; sayings <= 8; sayings++) {
            String text = HEAD + SAYING.repeat(sayings);
            good(text, 0);
            CHECK.due("sayings of '" + text + "'", Check.told(text).told(3), sayings);
        }
        bad(HEAD + SAYING.repeat(9), TOO_MANY, 5 + 8 * 5);
        bad(HEAD + SAYING.repeat(4) + MAN + SAYING.repeat(4) + MAN + SAYING, TOO_MANY, 5 + 8 * 5 + 2 * 13);
    }

    /** 'of PLACE X, 0 .. 4'. */
    private static void places() {
        for (int place = 0; place <= 10; place++) {
            String text = HEAD + "s" + place + " 1;";
            goodOrBad(place <= 4, text, 0, BAD_NUMBER, 6);
            CHECK.due("place of '" + text + "'", Check.told(text).saying(0, 0), place <= 4 ? place : TannedMen.UNKNOWN);
        }
    }

    /** 'SHARP by H, 1 .. 60'. */
    private static void sharp() {
        for (int sharp : new int[] {0, 1, 2, 59, 60, 61, 100, 999}) {
            boolean isGood = sharp >= 1 && sharp <= 60;
            String text = HEAD + "s4 " + sharp + ";";
            goodOrBad(isGood, text, 0, BAD_NUMBER, 8);
            CHECK.due("sharp of '" + text + "'", Check.told(text).saying(0, 1), isGood ? sharp : TannedMen.UNKNOWN);
        }
    }

    /** 'NUMBERS have one to three figures', a fault is 'a NUMBER of four figures or more'. */
    private static void figures() {
        good("t1 9;m3 9,9,9,9,9;s4 9;", 1);
        good("t01 09;m03 09,09,09,09,09;s04 09;", 1);
        good("t001 009;m003 009,000,030,001,009;s004 060;", 1);
        bad("t0001 9;", BAD_NUMBER, 1);
        bad("t1 0009;", BAD_NUMBER, 3);
        bad(HEAD + "m0003 0,0,0,0,0;", BAD_NUMBER, 6);
        bad(HEAD + "m0 0000,0,0,0,0;", BAD_NUMBER, 8);
        bad(HEAD + "m0 0,0,0,0,0030;", BAD_NUMBER, 16);
        bad(HEAD + "s0004 1;", BAD_NUMBER, 6);
        bad(HEAD + "s4 0060;", BAD_NUMBER, 8);
        bad("t" + "0".repeat(200) + "1 1;", BAD_NUMBER, 1);
        bad("t1 4294967297;", BAD_NUMBER, 3);
        bad("t1 18446744073709551617;", BAD_NUMBER, 3);
        bad("t ;", CANNOT_STAND, 2);
        bad("t1 ;", CANNOT_STAND, 3);
    }

    /** 'a word is one letter'. */
    private static void wordsOfOneLetter() {
        bad("tt1 1;", CANNOT_STAND, 1);
        bad("tm1 1;", CANNOT_STAND, 1);
        bad(HEAD + "mm0 0,0,0,0,0;", CANNOT_STAND, 6);
        bad(HEAD + "ss0 1;", CANNOT_STAND, 6);
        bad("T1 1;", CANNOT_STAND, 0);
        bad(HEAD + "M0 0,0,0,0,0;", CANNOT_STAND, 5);
        bad(HEAD + "S0 1;", CANNOT_STAND, 5);
    }

    /** 'blanks (32) may stand anywhere'. */
    private static void blanksAnywhere() {
        String[] parts = {
            "t", "3", " 9", ";", "m", "2", " 10", ",", "20", ",", "30", ",", "0", ",", "11", ";", "s", "4", " 60", ";", ""
        };
        for (int blank = 0; blank < parts.length; blank++) {
            for (int many = 1; many <= 3; many += 2) {
                StringBuilder text = new StringBuilder();
                for (int i = 0; i < parts.length; i++) {
                    text.append(i == blank ? " ".repeat(many) : "").append(parts[i]);
                }
                good(text.toString(), 1);
                TannedMen x = Check.told(text.toString());
                CHECK.due("soft of '" + text + "'", x.skin(0, 4, 0), 11);
                CHECK.due("sharp of '" + text + "'", x.saying(0, 1), 60);
            }
        }
    }

    /** '.. but within NUMBERS'. */
    private static void noBlanksWithinNumbers() {
        good(HEAD + "s4 60;", 0);
        bad(HEAD + "s4 6 0;", CANNOT_STAND, 10);
        good(HEAD + "m0 30,0,0,0,30;", 1);
        bad(HEAD + "m0 3 0,0,0,0,30;", CANNOT_STAND, 10);
        bad(HEAD + "m0 30,0,0,0,3 0;", CANNOT_STAND, 19);
        bad("t0 01 1;", BAD_NUMBER, 1);
    }

    /** 'blanks (32)': no other letter is one. */
    private static void blankIs32() {
        for (int letter : new int[] {0, 8, 9, 10, 11, 12, 13, 31, 33, 127, 133, 160, 255}) {
            bad((char) letter + HEAD, CANNOT_STAND, 0);
            bad("t1" + (char) letter + "1;", CANNOT_STAND, 2);
            bad(HEAD + (char) letter, CANNOT_STAND, 5);
        }
    }

    /** 'two NUMBERS side by side need one' (a blank): else it is one number. */
    private static void numbersSideBySide() {
        good("t1 1;", 0);
        bad("t11;", BAD_NUMBER, 1);
        bad("t01;", CANNOT_STAND, 3);
        bad(HEAD + "m00,0,0,0,0;", CANNOT_STAND, 8);
        bad(HEAD + "m030,0,0,0,0;", BAD_NUMBER, 6);
        bad(HEAD + "s01;", CANNOT_STAND, 8);
        bad(HEAD + "s411;", BAD_NUMBER, 6);
    }

    /** 'FAULTS, at the first letter that has one': whatever its number, and what comes behind. */
    private static void firstLetterWithAFault() {
        bad(HEAD + "t x", TOO_MANY, 5);
        bad(HEAD + "t0 0;", TOO_MANY, 5);
        bad("t0 x", BAD_NUMBER, 1);
        bad("t4", BAD_NUMBER, 1);
        bad("t1 0x", BAD_NUMBER, 3);
        bad("t1 0;" + HEAD, BAD_NUMBER, 3);
        bad("t1 10", BAD_NUMBER, 3);
        bad("x t0", CANNOT_STAND, 0);
        bad(HEAD + "m0 0,x,31,0,0;", CANNOT_STAND, 10);
        bad(HEAD + "m0 0,31,x,0,0;", BAD_NUMBER, 10);
    }

    /** '(the end at the text's length)': whatever is due there. */
    private static void endOfTheText() {
        String text = HEAD + MAN + SAYING;
        for (int length = 1; length <= text.length(); length++) {
            String part = text.substring(0, length);
            boolean isGood = length == 5 || length == 18 || length == 23;
            goodOrBad(isGood, part, length >= 18 ? 1 : 0, CANNOT_STAND, length);
            goodOrBad(isGood, part + "   ", length >= 18 ? 1 : 0, CANNOT_STAND, length + 3);
        }
    }

    /** 'of these the least': a word or number that cannot stand there is no other fault as well. */
    private static void leastOfFaults() {
        bad("t1 1t", CANNOT_STAND, 4);
        bad("t1 t", CANNOT_STAND, 3);
        bad(HEAD + MAN.repeat(6) + "sm", CANNOT_STAND, 5 + 6 * 13 + 1);
        bad(HEAD + SAYING.repeat(8) + "m0 s", CANNOT_STAND, 5 + 8 * 5 + 3);
        bad("1234", CANNOT_STAND, 0);
        bad(HEAD + "1234", CANNOT_STAND, 5);
        bad("t1 1 1234;", CANNOT_STAND, 5);
        bad(HEAD + "m0 0 1234", CANNOT_STAND, 10);
        bad(HEAD + "m0 0 31", CANNOT_STAND, 10);
    }

    /** 'a letter that is no word', where one is due. */
    private static void noWord() {
        for (int letter = 0; letter <= 255; letter++) {
            String text = HEAD + (char) letter;
            if (letter == ' ') {
                good(text, 0);
            } else if (letter == 't') {
                bad(text, TOO_MANY, 5);
            } else {
                bad(text, CANNOT_STAND, letter == 'm' || letter == 's' ? 6 : 5);
            }
        }
    }

    /** 'another word first than t', and what is no word. */
    private static void noFirstWord() {
        for (int letter = 0; letter <= 255; letter++) {
            String text = "" + (char) letter;
            if (letter == ' ') {
                good(text, 0);
            } else {
                bad(text, CANNOT_STAND, letter == 't' ? 1 : 0);
            }
        }
    }

    /** 'it cannot stand there': another letter where a number is due. */
    private static void noNumber() {
        for (int letter = 0; letter <= 255; letter++) {
            String text = "t" + (char) letter;
            if (letter == ' ' || letter >= '1' && letter <= '3') {
                bad(text, CANNOT_STAND, 2);
            } else {
                bad(text, letter >= '0' && letter <= '9' ? BAD_NUMBER : CANNOT_STAND, 1);
            }
        }
    }

    /** 'another letter where a ; is due'. */
    private static void noSemicolon() {
        for (int letter = 0; letter <= 255; letter++) {
            String text = "t1 1 " + (char) letter;
            goodOrBad(letter == ';', text, 0, CANNOT_STAND, letter == ' ' ? 6 : 5);
            String saying = HEAD + "s0 1 " + (char) letter;
            goodOrBad(letter == ';', saying, 0, CANNOT_STAND, letter == ' ' ? 11 : 10);
            String man = HEAD + "m0 0,0,0,0,0 " + (char) letter;
            goodOrBad(letter == ';', man, 1, CANNOT_STAND, letter == ' ' ? 19 : 18);
        }
    }

    /** 'another letter where a , is due'. */
    private static void noComma() {
        for (int letter = 0; letter <= 255; letter++) {
            boolean mayStand = letter == ',' || letter == ' ';
            bad(HEAD + "m0 0 " + (char) letter, CANNOT_STAND, mayStand ? 11 : 10);
            bad(HEAD + "m0 0,0,0,0 " + (char) letter, CANNOT_STAND, mayStand ? 17 : 16);
        }
    }

    /** 'out of its bounds (at its first)': its first figure, not its last, not a blank ahead of it. */
    private static void numberAtItsFirst() {
        bad("t   4 1;", BAD_NUMBER, 4);
        bad("t1   010;", BAD_NUMBER, 5);
        bad("t1 12345;", BAD_NUMBER, 3);
        bad(HEAD + "m0 0,  031,0,0,0;", BAD_NUMBER, 12);
        bad(HEAD + "s0    061;", BAD_NUMBER, 11);
    }

    /** 't again, a seventh m, a ninth s (at it)': not where its clause goes on. */
    private static void tooManyAtTheWord() {
        bad(HEAD + "  t", TOO_MANY, 7);
        bad(HEAD + MAN.repeat(6) + " m", TOO_MANY, 84);
        bad(HEAD + MAN.repeat(6) + "m4", TOO_MANY, 83);
        bad(HEAD + SAYING.repeat(8) + "  s", TOO_MANY, 47);
        bad(HEAD + SAYING.repeat(8) + "s5", TOO_MANY, 45);
    }

    private static void noYard(String what, TannedMen x) {
        for (int told = 0; told <= 14; told++) {
            CHECK.due(what + ": told(" + told + ")", x.told(told), told >= 9 && told <= 11 ? TannedMen.NONE : 0);
        }
        CHECK.due(what + ": month(1)", x.month(1), TannedMen.NOT);
        CHECK.due(what + ": drift(1)", x.drift(1), TannedMen.NOT);
        CHECK.due(what + ": bark(1)", x.bark(1), TannedMen.NOT);
        CHECK.due(what + ": through(0, 0)", x.through(0, 0), TannedMen.NOT);
        CHECK.due(what + ": undo()", x.undo(), TannedMen.NOT);
        CHECK.due(what + ": man(0, 0)", x.man(0, 0), TannedMen.UNKNOWN);
        CHECK.due(what + ": saying(0, 0)", x.saying(0, 0), TannedMen.UNKNOWN);
        CHECK.due(what + ": judge()", x.judge(), TannedMen.NONE);
    }

    /** 'An empty text (or one of blanks alone): no YARD.' */
    private static void emptyText() {
        for (String text : new String[] {"", " ", "   ", " ".repeat(LETTERS)}) {
            good(text, 0);
            noYard(text.length() + " blanks", Check.told(text));
        }
        CHECK.due("a yard without men is one", Check.told(HEAD).month(1), 1);
    }

    /** The same, where there is a yard: it is one no more. */
    private static void emptyTextBehindAYard() {
        for (String text : new String[] {"", "  "}) {
            TannedMen x = lived();
            x.tear();
            Check.feed(x, text);
            CHECK.due("yard()", x.yard(), 0);
            noYard("'" + text + "' behind a yard", x);
            CHECK.due("goBack(0)", x.goBack(0), TannedMen.NOT);
            CHECK.due("the seed stays", x.seed(0), 77);
        }
    }

    // ---- promises 1 to 4

    /** Promise 1: 'No YARD.' */
    private static void newObject() {
        noYard("new", new TannedMen());
        CHECK.due("new: fault()", new TannedMen().fault(), TannedMen.NONE);
        CHECK.due("new: tear()", new TannedMen().tear(), 0);
        CHECK.due("new: seed(1)", new TannedMen().seed(1), 0);
        CHECK.due("new: goBack(0)", new TannedMen().goBack(0), TannedMen.NOT);
        CHECK.due("new: goBack(1)", new TannedMen().goBack(1), TannedMen.NOT);
    }

    /** Promise 2: 'One letter (a number 0 .. 255) comes behind THE TEXT: how many it has.' */
    private static void feedEachLetter() {
        TannedMen low = new TannedMen();
        TannedMen high = new TannedMen();
        for (int i = 0; i < LETTERS; i++) {
            CHECK.due("feed(" + i + ")", low.feed(i), i + 1);
            CHECK.due("feed(" + (255 - i) + ")", high.feed(255 - i), i + 1);
        }
        CHECK.due("letters", low.told(4), 240);
        CHECK.due("full", low.feed(0), TannedMen.FULL);
        CHECK.due("full", high.feed(255), TannedMen.FULL);
    }

    /** Promise 2: 'OUTSIDE', below 0 and above 255. */
    private static void feedOutside() {
        for (int letter : new int[] {Integer.MIN_VALUE, -256, -1, 256, 256 + 't', 65536 + 't', Integer.MAX_VALUE}) {
            TannedMen x = Check.fed("t1 1");
            CHECK.due("feed(" + letter + ")", x.feed(letter), TannedMen.OUTSIDE);
            CHECK.due("letters", x.told(4), 4);
            CHECK.due("feed(';')", x.feed(';'), 5);
            CHECK.due("yard()", x.yard(), 0);
            CHECK.due("pits", x.told(0), 1);
        }
    }

    /** Promise 3: 'how many MEN'; '-10 less the number of its FAULT'. */
    private static void yardAnswersMen() {
        for (int men = 0; men <= 6; men++) {
            CHECK.due("yard of " + men, Check.fed(HEAD + MAN.repeat(men) + SAYING).yard(), men);
        }
        CHECK.due("fault 1", Check.fed("x").yard(), -11);
        CHECK.due("fault 2", Check.fed("t4").yard(), -12);
        CHECK.due("fault 3", Check.fed(HEAD + "t").yard(), -13);
    }

    /** Promise 3: 'THE TEXT (it is empty then, with a FAULT, too)'. */
    private static void yardEmptiesTheText() {
        for (String text : new String[] {HEAD, "x", "t4", HEAD + "t", " ".repeat(LETTERS), "t1 1" + " ".repeat(236)}) {
            TannedMen x = Check.fed(text);
            x.yard();
            CHECK.due("letters behind '" + text + "'", x.told(4), 0);
            CHECK.due("the first letter behind '" + text + "'", x.feed('t'), 1);
            Check.feed(x, "2 3;" + MAN);
            CHECK.due("the next yard behind '" + text + "'", x.yard(), 1);
            CHECK.due("its pits", x.told(0), 2);
            CHECK.due("its fault", x.fault(), TannedMen.NONE);
        }
    }

    /** Something of everything. */
    private static TannedMen lived() {
        TannedMen x = Check.told("t2 4;m0 3,0,9,1,2;m3 5,5,5,5,5;s0 12;");
        x.in(1);
        x.month(2);
        x.scrape(0, 2, 4);
        x.keep(0);
        x.keep(1);
        x.say(0, 0);
        x.bark(9);
        x.drift(9);
        x.hear(0, 0, 7);
        x.write(0, 3);
        x.seed(77);
        return x;
    }

    /**
     * Promise 3: 'MONTH 0, BARK, SOFT as told, nobody in, THICK, no WOUNDS, GLUE; nothing HEARD, no
     * BOOK; IMAGES, what could be undone are gone; THE SEED stays'.
     */
    private static void yardIsNew() {
        String text = "t2 5;m3 3,0,9,1,2;m0 5,5,5,5,5;s1 12;s0 1;";
        TannedMen x = lived();
        Check.feed(x, text);
        CHECK.due("yard()", x.yard(), 2);
        CHECK.due("month", x.told(5), 0);
        CHECK.due("bark as told", x.told(1), 5);
        CHECK.due("nobody in", x.told(6), 0);
        CHECK.due("glue", x.told(7), 0);
        CHECK.due("wounds", x.told(8), 0);
        CHECK.due("heard", x.told(12), 0);
        CHECK.due("book", x.told(13), 0);
        CHECK.due("can be undone", x.told(14), 0);
        CHECK.due("soft as told", x.skin(0, 2, 0), 9);
        CHECK.due("thick", x.skin(1, 0, 1), 0);
        CHECK.due("image 0", x.goBack(0), TannedMen.NOT);
        CHECK.due("image 1", x.goBack(1), TannedMen.NOT);
        TannedMen fresh = Check.told(text);
        CHECK.due("the seed of a new one", fresh.seed(77), 0);
        CHECK.holds("as a new one in all else", Probe.whole(x).equals(Probe.whole(fresh)));
        TannedMen y = lived();
        CHECK.due("yard()", y.yard(), 0);
        CHECK.due("the seed stays", y.seed(0), 77);
    }

    /** The same with fewer MEN, SAYINGS, PITS: there are no others any more. */
    private static void yardWithFewer() {
        TannedMen x = Check.told("t3 9;" + MAN.repeat(6) + SAYING.repeat(8));
        x.in(4);
        x.in(5);
        x.say(7, 5);
        Check.feed(x, HEAD + MAN + SAYING);
        CHECK.due("yard()", x.yard(), 1);
        CHECK.due("the men's set", x.told(6), 0);
        CHECK.due("man 1", x.man(1, 0), TannedMen.UNKNOWN);
        CHECK.due("man 5", x.out(5), TannedMen.UNKNOWN);
        CHECK.due("saying 1", x.saying(1, 0), TannedMen.UNKNOWN);
        CHECK.due("saying 7", x.edge(0, 128, 0, 0), TannedMen.UNKNOWN);
        CHECK.due("wounds of all", x.told(8), 0);
        CHECK.due("the only pit is free", x.in(0), 0);
        Check.feed(x, HEAD);
        CHECK.due("yard()", x.yard(), 0);
        CHECK.due("man 0", x.man(0, 0), TannedMen.UNKNOWN);
        CHECK.due("best", x.told(9), TannedMen.NONE);
    }

    /** Promise 3: with a FAULT 'all else is as it was'. */
    private static void yardWithAFault() {
        String[] texts = {"x", "t1 1;m1 1,1,1,1,1;m1 2,2,2,2,2;m1 3,3,3,3,3;s4 4;s5", HEAD + SAYING.repeat(8) + "s"};
        for (int kind = 1; kind <= 3; kind++) {
            TannedMen x = lived();
            TannedMen twin = lived();
            Check.feed(x, texts[kind - 1]);
            CHECK.due("yard()", x.yard(), -10 - kind);
            CHECK.holds("all else with fault " + kind, Probe.whole(x).equals(Probe.whole(twin)));
        }
    }

    /** Promise 4: 'The letter of the FAULT of the latest yard(); NONE.' */
    private static void faultOfTheLatest() {
        TannedMen x = new TannedMen();
        CHECK.due("no yard() yet", x.fault(), TannedMen.NONE);
        Check.feed(x, "t1 1;x");
        CHECK.due("no yard() yet", x.fault(), TannedMen.NONE);
        x.yard();
        CHECK.due("at 5", x.fault(), 5);
        Check.feed(x, "x");
        CHECK.due("the latest yard() is the same", x.fault(), 5);
        x.yard();
        CHECK.due("at 0", x.fault(), 0);
        Check.feed(x, HEAD);
        x.yard();
        CHECK.due("none", x.fault(), TannedMen.NONE);
        Check.feed(x, "t1 0;");
        x.yard();
        CHECK.due("at 3", x.fault(), 3);
        x.yard();
        CHECK.due("an empty text has none", x.fault(), TannedMen.NONE);
    }
}
