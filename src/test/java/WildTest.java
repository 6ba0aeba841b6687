import java.util.Arrays;
import java.util.Random;

/** Whatever is handed in, in whatever state: no call throws, and what is refused changes nothing. */
public final class WildTest {
    private static final Check check = new Check("WildTest");
    private static final int[] EDGES = {Integer.MIN_VALUE, Integer.MIN_VALUE + 1, -65536, -81, -14, -5, -4, -3, -2, -1, 0, 1, 2,
        3, 4, 5, 6, 7, 8, 9, 10, 11, 12, 13, 23, 24, 25, 29, 30, 31, 32, 40, 41, 48, 49, 60, 80, 81, 103, 126, 127, 65536,
        Integer.MAX_VALUE - 1, Integer.MAX_VALUE};
    private static final String[] STATES = {"", "g9", "g0,c0", "g9>1:3,c12>2:7,t4>0:5,p8>4:2,l6>3:12,g20>0:1",
        "l30>1:12,p0>0:1,c30"};

    private static KeyedFeelings inState(int state, int draw) {
        KeyedFeelings x = new KeyedFeelings();
        if (!STATES[state].isEmpty()) {
            Check.close(x, STATES[state]);
        }
        if (draw % 2 == 0) {
            x.sheet(0, draw / 2 % 4, 8);
            x.sheet(1, draw / 2 % 4, 24);
            x.sheet(2, draw / 8 % 4, 0);
        }
        if (draw % 3 == 0) {
            x.drift(1 + draw % 9);
            x.image();
            x.lend(0, 2);
        }
        if (draw % 5 == 0) {
            x.type('g');
        }
        return x;
    }

    /** All that can be seen without a change, but for the tape and for the draw. */
    private static String seen(KeyedFeelings x) {
        StringBuilder text = new StringBuilder();
        for (int what = 0; what < 8; what++) {
            text.append(x.count(what)).append(' ');
        }
        for (int person = 0; person < 6; person++) {
            for (int what = 0; what < 6; what++) {
                text.append(x.of(person, what)).append(' ');
            }
        }
        for (int sheet = 0; sheet < 4; sheet++) {
            for (int lane = 0; lane < 4; lane++) {
                for (int i = 0; i < 24; i += 7) {
                    text.append(x.heard(0, sheet, lane, i, 1, 1)).append(' ');
                }
            }
        }
        int draw = x.seed(0);
        x.seed(draw);
        return text.append(draw).toString();
    }

    private static void one(Random random, int call) {
        int draw = random.nextInt(1000);
        KeyedFeelings x = inState(random.nextInt(STATES.length), draw);
        int[] a = new int[6];
        for (int each = 0; each < a.length; each++) {
            a[each] = EDGES[random.nextInt(EDGES.length)];
        }
        String told = Calls.NAMES[call] + Arrays.toString(a);
        String before = seen(x);
        try {
            int answer = new Calls(x).answer(call, a, random.nextLong());
            boolean changes = answer >= 0 || answer == -4 && call == 7;
            String after = seen(x);
            check.due(told + " answered " + answer + " and changed", changes || before.equals(after) ? 1 : 0, 1);
        } catch (IllegalStateException thrown) {
            check.wrong(told + " threw " + thrown.getCause().getCause());
        }
    }

    public static void main(String[] args) {
        Random random = new Random(8);
        for (int each = 0; each < 3000; each++) {
            for (int call = 0; call < Calls.NAMES.length; call++) {
                one(random, call);
            }
        }
        check.end();
    }
}
