import com.sun.management.ThreadMXBean;
import java.lang.management.ManagementFactory;

/** What is made: little by the constructor, nothing by any call. */
public final class RoomTest {
    private static final String FULL = "house minutes 30 dust 1 law 2 money 10 odds 3 ;"
        + "nose 2 holds 5 ;nose 1 holds 8 ;nose 3 holds 20 ;nose 1 holds 30 ;nose 2 holds 40 ;nose 1 holds 9 ;"
        + "gust 3 at 2 ;gust 3 at 9 ;gust 3 at 12 ;gust 3 at 20 ;gust 3 at 22 ;"
        + "net 0 1 ;net 1 2 ;net 2 3 ;net 3 4 ;net 4 5 ;net 5 0 ;net 0 2 ;net 1 3 ;"
        + "policy 0 from 1 to 29 sum 30 pays 4 ;policy 1 from 1 to 29 sum 30 pays 4 ;policy 2 from 1 to 29 sum 30 pays 4 ;"
        + "policy 3 from 1 to 29 sum 30 pays 4 ;policy 4 from 1 to 29 sum 30 pays 4 ;policy 5 from 1 to 29 sum 30 pays 4 ;";

    public static void main(String[] args) throws Exception {
        ThreadMXBean bean = (ThreadMXBean) ManagementFactory.getThreadMXBean();
        long self = Thread.currentThread().getId();
        PepperPolicy x = new PepperPolicy();
        every(x);
        long before = bean.getThreadAllocatedBytes(self);
        PepperPolicy y = new PepperPolicy();
        long made = bean.getThreadAllocatedBytes(self) - before;
        before = bean.getThreadAllocatedBytes(self);
        for (int i = 0; i < 20; i++) every(y);
        long byCalls = bean.getThreadAllocatedBytes(self) - before;
        System.out.println("an object takes " + made + " bytes, twenty times all calls " + byCalls);
        if (made > 60000 || byCalls > 20000) {
            System.out.println("too much is made");
            System.exit(1);
        }
    }

    private static void every(PepperPolicy x) {
        x.end(0);
        for (int i = 0; i < FULL.length(); i += 20) {
            x.feed(word(i), word(i + 4), word(i + 8), word(i + 12), word(i + 16));
        }
        x.end(FULL.length());
        if (x.house() != 26) throw new IllegalStateException("the house is not told");
        x.row(0, 3, 0);
        x.image(0);
        x.stifle(0, 0);
        x.sniff(1, 1);
        for (int i = 0; i < 6; i++) one(x, i);
        x.paste(0, 0, 0, 0, 0);
        x.write(0, 0, 0);
        x.undo();
        x.anew();
        x.rate(0, 4);
        x.back(0);
    }

    private static void one(PepperPolicy x, int i) {
        x.fault(i); x.nose(i, 0); x.policy(i, i); x.beside(i); x.dust(i); x.sneezes(i); x.first(i); x.all(); x.who(i);
        x.tickle(i, i); x.itch(i); x.caught(i); x.gave(i); x.worst(); x.chorus(); x.calm(); x.pause(i); x.later(i, i);
        x.covered(i); x.naked(); x.covers(i); x.profit(i); x.lowest(); x.dull(i); x.bears(i); x.clean(); x.spreads(i);
        x.web(i); x.claim(i); x.paid(i); x.claims(); x.money(i); x.ruin(); x.dear(); x.reserve(); x.by(i); x.law();
        x.takes(i); x.gains(i); x.price(i); x.hold(i); x.holds(i); x.snuff(i); x.frauds(i); x.which(0); x.when(0);
        x.gust(0); x.ask(0); x.leaves(0); x.rests(i, 0); x.loses(i, 0, 1, 1); x.cut(i); x.cuts(); x.chance(i, 7, 0);
        x.fair(i, 7, 0); x.risk(7, 1); x.drawn(i, 2); x.luck(i, 20, i); x.count(i);
    }

    private static int word(int at) {
        int n = 0;
        for (int i = at; i < at + 4; i++) n = n << 8 | (i < FULL.length() ? FULL.charAt(i) : 32);
        return n;
    }
}
