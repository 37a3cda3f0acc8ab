/** Promises 31 to 33: the seed, and images. */
public final class DrawsImagesTest {
    private static final Check CHECK = new Check("DrawsImagesTest");
    private static final String YARD = "t2 4;m0 3,0,9,1,2;m3 5,5,5,5,5;m2 9,9,9,9,9;s0 12;s3 60;";
    private static final int[] NO_IMAGES = {Integer.MIN_VALUE, -1, 2, Integer.MAX_VALUE};

    public static void main(String[] args) {
        seed();
        keepAndGoBack();
        twoImages();
        nothingCanBeUndone();
        imagesWithoutYard();
        refused();
        CHECK.end();
    }

    private static void seed() {
        TannedMen x = Check.told(YARD);
        CHECK.due("at first", x.seed(2147483647), 0);
        CHECK.due("what it was", x.seed(0), 2147483647);
        CHECK.due("negative", x.seed(-1), TannedMen.OUTSIDE);
        CHECK.due("least", x.seed(Integer.MIN_VALUE), TannedMen.OUTSIDE);
        CHECK.due("what it was", x.seed(5), 0);
        CHECK.due("no deed", x.told(14), 0);
        x.drift(1);
        int moved = x.seed(5);
        CHECK.holds("draws move it", moved != 5 && moved >= 0);
        TannedMen y = Check.told("t1 1;s0 1;");
        y.seed(5);
        y.drift(60);
        CHECK.due("without men there is no draw", y.seed(0), 5);
        TannedMen z = Check.told(YARD);
        z.seed(5);
        z.month(60);
        CHECK.due("month() draws nothing", z.seed(0), 5);
    }

    private static void keepAndGoBack() {
        TannedMen x = Check.told(YARD);
        x.seed(11);
        x.drift(25);
        x.in(0);
        x.bark(7);
        x.hear(0, 0, 3);
        CHECK.due("keep(0)", x.keep(0), 1);
        String kept = Check.seen(x);
        x.drift(60);
        String ahead = Check.seen(x);
        x.say(0, 1);
        x.scrape(2, 3, 1);
        x.bark(1);
        x.write(0, 3);
        CHECK.due("goBack(0)", x.goBack(0), 1);
        CHECK.due("the book stays", x.told(13), 1);
        CHECK.due("what is heard stays", x.told(12), 1);
        x.tear();
        x.hear(0, 0, 3);
        CHECK.holds("as it was kept", kept.equals(Check.seen(x)));
        x.drift(60);
        CHECK.holds("the seed came back", ahead.equals(Check.seen(x)));
        CHECK.due("goBack(0) again", x.goBack(0), 1);
        CHECK.holds("as it was kept", kept.equals(Check.seen(x)));
    }

    private static void twoImages() {
        TannedMen x = Check.told(YARD);
        x.month(1);
        x.keep(0);
        x.month(1);
        x.keep(1);
        x.month(1);
        CHECK.due("goBack(0)", x.goBack(0), 1);
        CHECK.due("months", x.told(5), 1);
        CHECK.due("goBack(1)", x.goBack(1), 1);
        CHECK.due("months", x.told(5), 2);
        x.month(7);
        CHECK.due("keep(0) anew", x.keep(0), 1);
        x.goBack(1);
        x.goBack(0);
        CHECK.due("months", x.told(5), 9);
    }

    private static void nothingCanBeUndone() {
        TannedMen x = Check.told(YARD);
        x.month(1);
        x.keep(0);
        CHECK.due("behind keep", x.told(14), 0);
        CHECK.due("behind keep", x.undo(), TannedMen.NOT);
        x.month(1);
        x.month(1);
        CHECK.due("undo()", x.undo(), 1);
        x.goBack(0);
        CHECK.due("behind goBack", x.told(14), 0);
        CHECK.due("behind goBack", x.undo(), TannedMen.NOT);
        CHECK.due("months", x.told(5), 1);
    }

    private static void imagesWithoutYard() {
        TannedMen x = new TannedMen();
        x.seed(9);
        CHECK.due("keep(0)", x.keep(0), 1);
        x.seed(10);
        CHECK.due("goBack(0)", x.goBack(0), 1);
        CHECK.due("the seed", x.seed(1), 9);
        Check.feed(x, YARD);
        x.yard();
        CHECK.due("gone by yard()", x.goBack(0), TannedMen.NOT);
    }

    private static void refused() {
        TannedMen x = Check.told(YARD);
        x.month(1);
        for (int i : NO_IMAGES) {
            CHECK.due("keep(" + i + ")", x.keep(i), TannedMen.UNKNOWN);
            CHECK.due("goBack(" + i + ")", x.goBack(i), TannedMen.UNKNOWN);
        }
        CHECK.refused("goBack(0), not kept", x, o -> o.goBack(0), TannedMen.NOT);
        CHECK.due("goBack(1), not kept", x.goBack(1), TannedMen.NOT);
        x.keep(0);
        x.month(1);
        CHECK.refused("goBack(1), not kept", x, o -> o.goBack(1), TannedMen.NOT);
        CHECK.due("still undone", x.undo(), 0);
    }
}
