import com.sun.management.ThreadMXBean;
import java.lang.management.ManagementFactory;

/** All calls of a run live in one room: the dearest calls make nothing, and an object is small from the start. */
public final class RoomTest {
    private static final ThreadMXBean BEAN = (ThreadMXBean) ManagementFactory.getThreadMXBean();
    private static int wrong = 0;

    private static long bytes() {
        return BEAN.getThreadAllocatedBytes(Thread.currentThread().getId());
    }

    private static void feed(CatCourt x, String text) {
        for (int i = 0; i < text.length(); i += 20) {
            int[] v = new int[5];
            for (int j = 0; j < 20 && i + j < text.length(); j++) {
                v[j / 4] |= text.charAt(i + j) << 24 - 8 * (j % 4);
            }
            x.feed(v[0], v[1], v[2], v[3], v[4]);
        }
    }

    private static int all(CatCourt x, int i) {
        int sum = x.ask(4, 0, 0) + x.three(0) + x.spare(0, 0) + x.mercy(15, 0, 0, 1) + x.appeals(255, 0, 9);
        sum += x.bar(255, 0, 0) + x.moonlit(255, 0, 0) + x.brothers(255, 0, 1) + x.free(255) + x.rests(0, -1);
        sum += x.see(i % 8, i % 6, i % 4) + x.guess(0) + x.drank(-1) + x.sure() + x.fits(0) + x.hear(255, 0, i);
        sum += x.often(0, 0) + x.harsh() + x.image() + x.nights(1) + x.undo() + x.back() + x.mean(255, 0, 1);
        sum += x.quiet(255, 0, 1) + x.noisy(0, 0) + x.surely(0, 0) + x.alike(0, 0, 1, 1) + x.likely(0, 0, 0);
        sum += x.fault(0) + x.fault(1) + x.feed(0, 0, 0, 0, 0) + x.count(3) + x.bench(0) + x.cat(0, 0) + x.log(0, 0);
        return sum;
    }

    private static void must(boolean holds, String what) {
        if (!holds) {
            wrong++;
            System.out.println("not so: " + what);
        }
    }

    public static void main(String[] args) {
        // the first one also loads the classes
        CatCourt x = new CatCourt();
        long start = bytes();
        x = new CatCourt();
        long made = bytes() - start;
        must(made < 60000, "a new object takes less than 60000 bytes, not " + made);
        feed(x, "b;c;cp2;ct3;cu4;cl5;cf6;cc7;cp8;a;ag1;ak1;ad1;a;a");
        x.text(0);
        feed(x, "y:!(!(d=1&w>2|g=k))?[h-[f*[m/[c+1]]]];y:w+d*g");
        x.text(1);
        x.law(0);
        feed(x, "y:(((((d=1");
        int sum = all(x, 0);
        start = bytes();
        for (int i = 1; i < 40; i++) {
            sum += all(x, i);
        }
        long used = bytes() - start;
        must(used < 5000, "calls make nothing, not " + used + " bytes");
        System.out.println((wrong == 0 ? "the room is wide enough" : "the room is too small") + " (" + made + ", "
            + used + ", " + sum + ")");
        if (wrong != 0) {
            System.exit(1);
        }
    }
}
