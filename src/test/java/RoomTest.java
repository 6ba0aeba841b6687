import com.sun.management.ThreadMXBean;
import java.lang.management.ManagementFactory;

/** One object makes its rows when it is made; 512 calls of the dearest kinds make no more. */
public final class RoomTest {
    private static final Check check = new Check("RoomTest");
    private static final ThreadMXBean threads = (ThreadMXBean) ManagementFactory.getThreadMXBean();

    private static long made() {
        return threads.getCurrentThreadAllocatedBytes();
    }

    private static int dearest(KeyedFeelings x, int each) {
        switch (each % 16) {
            case 0: return x.type('g') + x.close();
            case 1: return x.hours(48);
            case 2: return x.drift(48);
            case 3: return x.image();
            case 4: return x.restore();
            case 5: return x.ever();
            case 6: return x.lends(40, 30, 0);
            case 7: return x.instead(0, 40, 0);
            case 8: return x.needs(0, 40);
            case 9: return x.match(-1);
            case 10: return x.again();
            case 11: return x.forget(0, 5, 0);
            case 12: return x.sheet(0, each % 4, 24);
            case 13: return x.film(0, 24, 0, (each - 1) % 4, 0);
            case 14: return x.heard(0, 0, (each - 2) % 4, 0, 8, 1);
            default: return x.undo() + x.chain(0, 1) + x.copy(0, 0, 0, 1, 3);
        }
    }

    public static void main(String[] args) {
        made();
        KeyedFeelings x = Check.of("g9>1:3,c12>2:7,t4>0:5,p8>4:2,l6>3:12,g20>0:1");
        dearest(x, 0);
        long before = made();
        int sum = 0;
        for (int each = 0; each < 384; each++) {
            sum += dearest(x, each);
        }
        long calls = made() - before;
        check.due("384 calls made " + calls + " bytes, answers " + sum, calls < 2000 ? 1 : 0, 1);
        before = made();
        KeyedFeelings other = new KeyedFeelings();
        long object = made() - before;
        check.due("an object makes " + object + " bytes", object < 20000 && other.count(0) == 0 ? 1 : 0, 1);
        check.end();
    }
}
