/** All that later calls can tell of an object, as a text: it is used up by it, in some 330 calls. */
final class Probe {
    private Probe() {
    }

    /** Two objects, the latest fault and what was fed apart, are alike if this is the same of both. */
    static String whole(TannedMen x) {
        StringBuilder all = new StringBuilder(Check.seen(x));
        sayings(x, all);
        heard(x, all);
        all.append("seed ").append(x.seed(1)).append('\n');
        undone(x, all);
        for (int i = 0; i <= 1; i++) {
            all.append("image ").append(i).append(": ").append(x.goBack(i)).append(' ');
            all.append(Check.seen(x)).append("seed ").append(x.seed(1)).append('\n');
        }
        text(x, all);
        return all.toString();
    }

    private static void sayings(TannedMen x, StringBuilder all) {
        int sayings = x.told(3);
        for (int s = 0; s < sayings; s++) {
            all.append(x.saying(s, 0)).append('/').append(x.saying(s, 1)).append(' ');
        }
        all.append('\n');
    }

    private static void heard(TannedMen x, StringBuilder all) {
        int men = x.told(2);
        for (int m = 0; m < men; m++) {
            for (int what = 0; what <= 2; what++) {
                all.append(x.stays(m, what)).append(' ');
            }
            all.append(x.ask(m)).append(' ');
        }
        all.append("wrong ").append(x.judge()).append('\n');
    }

    private static void undone(TannedMen x, StringBuilder all) {
        int[] seen = {1, 5, 6, 7, 8, 9, 10, 11};
        for (int i = 0; i < 20; i++) {
            int left = x.undo();
            all.append("undone ").append(left).append(": ");
            if (left < 0) {
                break;
            }
            for (int what : seen) {
                all.append(x.told(what)).append(' ');
            }
            all.append('\n');
        }
    }

    /** What was fed shows by the yard that it becomes. */
    private static void text(TannedMen x, StringBuilder all) {
        all.append("yard ").append(x.yard()).append(" fault ").append(x.fault()).append(' ').append(Check.seen(x));
        sayings(x, all);
    }
}
