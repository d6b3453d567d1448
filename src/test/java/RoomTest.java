import com.sun.management.ThreadMXBean;
import java.lang.management.ManagementFactory;

/** All that is made is made in the constructor, and is little. */
public final class RoomTest {
    public static void main(String[] args) {
        Check check = new Check();
        ThreadMXBean bean = (ThreadMXBean) ManagementFactory.getThreadMXBean();
        long id = Thread.currentThread().getId();
        String text = "wall wide 8 high 4 law 1 seen;bill a plain wide 2 high 2 text abc;bill b wording wide 1 high 1 text b"
            + ";bill c torn wide 1 high 2 text c;rival p sheets 20;word ab;word bb;founder a at 0,0";
        CoverTwo x = Check.told(text);
        work(x);
        long before = bean.getThreadAllocatedBytes(id);
        CoverTwo[] made = new CoverTwo[100];
        for (int i = 0; i < made.length; i++) {
            made[i] = new CoverTwo();
        }
        long one = (bean.getThreadAllocatedBytes(id) - before) / made.length;
        check.due("an object takes " + one + " bytes", one < 24000, true);
        before = bean.getThreadAllocatedBytes(id);
        for (int i = 0; i < 12; i++) {
            work(x);
        }
        long calls = bean.getThreadAllocatedBytes(id) - before;
        check.due("calls take " + calls + " bytes", calls < 2000, true);
        check.end();
    }

    private static void work(CoverTwo x) {
        x.wall(0);
        x.paste(0, 1, 0, 0);
        x.paste(0, 0, 1, 0);
        x.days(3);
        x.mark();
        for (int d = 1; d <= 4; d++) {
            x.far(d);
            x.shortest(d);
            x.wins(d);
            x.close(0, d);
            x.life(d, true);
            x.life(d, false);
        }
        for (int b = 0; b < 3; b++) {
            x.best(b);
            x.makes(b);
            x.places(b);
            x.table(b, 1, true);
        }
        x.orders();
        x.ahead(1, 2);
        x.letter(1, 1);
        x.reads(0);
        x.tear(1);
        x.undo();
        x.scrape();
        x.back(0);
    }
}
