import com.sun.management.ThreadMXBean;
import java.lang.management.ManagementFactory;

/** What is made is made by the constructor, and little of it: all calls of a run live in one room. */
public final class RoomTest {
    private static final String YARD = "t3 9;m0 30,30,30,30,30;m1 30,30,30,30,30;m2 0,0,0,0,0;m3 0,0,0,0,0;s0 60;s1 60;s2 6;s3 60;";
    private static final int ROUNDS = 2000;
    private static final long MOST_BYTES_A_CALL_ROUND = 8;
    private static final long MOST_BYTES_AN_OBJECT = 20000;

    public static void main(String[] args) {
        Check check = new Check("RoomTest");
        ThreadMXBean counter = (ThreadMXBean) ManagementFactory.getThreadMXBean();
        long thread = Thread.currentThread().getId();
        TannedMen[] rounds = new TannedMen[ROUNDS];
        for (int i = 0; i < ROUNDS; i++) {
            rounds[i] = new TannedMen();
        }
        everyCall(new TannedMen());
        long ahead = counter.getThreadAllocatedBytes(thread);
        for (TannedMen x : rounds) {
            everyCall(x);
        }
        long made = counter.getThreadAllocatedBytes(thread) - ahead;
        check.holds("calls make nothing, not " + made + " bytes", made <= ROUNDS * MOST_BYTES_A_CALL_ROUND);
        ahead = counter.getThreadAllocatedBytes(thread);
        TannedMen[] many = new TannedMen[100];
        for (int i = 0; i < many.length; i++) {
            many[i] = new TannedMen();
        }
        made = counter.getThreadAllocatedBytes(thread) - ahead;
        check.holds("an object is small, not " + made / many.length + " bytes", made / many.length <= MOST_BYTES_AN_OBJECT);
        check.end();
    }

    private static void everyCall(TannedMen x) {
        for (int i = 0; i < YARD.length(); i++) {
            x.feed(YARD.charAt(i));
        }
        x.yard();
        x.fault();
        for (int what = 0; what <= 14; what++) {
            x.told(what);
        }
        x.man(0, 4);
        x.skin(0, 0, 0);
        x.saying(0, 0);
        x.hurt(0, 0);
        x.keep(0);
        x.in(0);
        x.month(3);
        x.out(0);
        x.scrape(0, 0, 1);
        x.say(0, 0);
        x.bark(9);
        x.drift(5);
        x.undo();
        x.thick(0, 0, 9);
        x.when(0, 0, 0);
        x.edge(0, 15, 1, 0);
        x.scraping(0, 15);
        x.through(200, 1);
        x.over(0, 1);
        x.quiet(9, 9);
        x.hear(0, 0, 0);
        x.stays(0, 0);
        x.ask(1);
        x.write(0, 0);
        x.judge();
        x.tear();
        x.seed(8);
        x.goBack(0);
    }
}
