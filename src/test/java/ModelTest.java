import java.util.Arrays;
import java.util.Random;

/** Runs of up to 512 calls, by draws from a set seed: the class answers as the model of the document. */
public final class ModelTest {
    private static final int RUNS = 400;
    private static final Check check = new Check("ModelTest");
    private static final int[] WILD = {-1, -2, -4, 0, 6, 9, 13, 25, 31, 41, 49, 81, Integer.MAX_VALUE, Integer.MIN_VALUE};
    /** How large an argument of each call may be and be as told, as a rule; letters are drawn apart. */
    private static final int[][] MOST = {{4, 30}, {5, 5}, {}, {}, {7}, {48}, {5, 30}, {5, 5}, {5, 12}, {48}, {},
        {Integer.MAX_VALUE - 1}, {5, 80}, {80}, {5}, {}, {}, {5, 1}, {40, 30, 1}, {5, 40, 1}, {5, 40}, {5}, {}, {5, 10, 1},
        {}, {}, {5, 3, 3, 8, 8, 7}, {5, 24, 3, 3, 12}, {3, 3, 24}, {3}, {3, 3, 24}, {3, 12, 3, 12, 12}};
    /** How often each call is drawn. */
    private static final int[] OFTEN = {1, 3, 0, 1, 3, 3, 3, 3, 3, 2, 3, 1, 2, 2, 2, 1, 1, 2, 3, 3, 2, 3, 2, 4, 1, 1, 4, 4, 2,
        1, 3, 3};

    private final Random random;
    private final Calls x = new Calls(new KeyedFeelings());
    private final Calls model = new Calls(new Model());
    private final int run;
    private final StringBuilder story = new StringBuilder();
    private int calls = 0;
    private int wrong = 0;

    private ModelTest(int run) {
        this.run = run;
        this.random = new Random(run);
    }

    private int both(int call, int[] a, long v) {
        calls++;
        int got = x.answer(call, a, v);
        int want = model.answer(call, a, v);
        String told = Calls.NAMES[call] + Arrays.toString(Arrays.copyOf(a, MOST[call].length)) + (call == Calls.ITEM ? v : "");
        story.append(told).append('=').append(want).append(' ');
        if (got != want) {
            wrong++;
            check.wrong("run " + run + ", behind " + story);
        }
        check.due("run " + run + ": " + told, got, want);
        return want;
    }

    private int drawCall() {
        int sum = Arrays.stream(OFTEN).sum();
        int left = random.nextInt(sum);
        for (int call = 0; call < OFTEN.length; call++) {
            left -= OFTEN[call];
            if (left < 0) {
                return call;
            }
        }
        return 0;
    }

    private int[] drawArguments(int call) {
        int[] a = new int[6];
        for (int each = 0; each < MOST[call].length; each++) {
            a[each] = random.nextInt(25) == 0 ? WILD[random.nextInt(WILD.length)] : random.nextInt(MOST[call][each] + 1);
        }
        return a;
    }

    private long drawLong() {
        return random.nextInt(4) == 0 ? random.nextLong() : random.nextInt(32) + (random.nextInt(5) == 0 ? 1L << 16 : 0);
    }

    private String drawText() {
        StringBuilder text = new StringBuilder();
        int people = random.nextInt(20) == 0 ? 7 : 1 + random.nextInt(6);
        for (int each = 0; each < people; each++) {
            text.append(each > 0 ? "," : "").append("gctpl".charAt(random.nextInt(5))).append(random.nextInt(31));
            if (random.nextInt(3) > 0) {
                int whom = random.nextInt(Math.min(6, people));
                if (whom != each || random.nextInt(30) == 0) {
                    text.append('>').append(whom).append(':').append(1 + random.nextInt(12));
                }
            }
        }
        String signs = "gctpl,>:0123456789  ";
        for (int spoilt = random.nextInt(3) == 0 ? 1 + random.nextInt(2) : 0; spoilt > 0; spoilt--) {
            int place = random.nextInt(text.length());
            char sign = signs.charAt(random.nextInt(signs.length()));
            int how = random.nextInt(3);
            if (how == 0) {
                text.setCharAt(place, sign);
            } else if (how == 1) {
                text.insert(place, sign);
            } else if (text.length() > 1) {
                text.deleteCharAt(place);
            }
        }
        return text.toString();
    }

    private void text() {
        String text = drawText();
        for (int i = 0; i < text.length(); i++) {
            both(Calls.TYPE, new int[] {text.charAt(i), 0, 0, 0, 0, 0}, 0);
        }
        both(Calls.CLOSE, new int[6], 0);
    }

    /** A film that is heard at once tells more than a row by draws. */
    private void filmAndHear() {
        int[] film = {random.nextInt(6), 8, random.nextInt(4), random.nextInt(4), random.nextInt(5), 0};
        both(Calls.SHEET, new int[] {film[2], film[3], 8 + random.nextInt(8), 0, 0, 0}, 0);
        both(Calls.FILM, film, 0);
        int shift = random.nextInt(4);
        for (int what = 0; what < 8; what++) {
            both(Calls.HEARD, new int[] {film[0], film[2], film[3], film[4], 8 - shift, what}, 0);
        }
    }

    private void go() {
        if (random.nextInt(8) > 0) {
            text();
        }
        while (calls < 440 && wrong == 0) {
            int draw = random.nextInt(60);
            if (draw == 0) {
                text();
            } else if (draw == 1) {
                filmAndHear();
            } else {
                int call = drawCall();
                both(call, drawArguments(call), drawLong());
            }
        }
    }

    public static void main(String[] args) {
        for (int run = 0; run < RUNS; run++) {
            new ModelTest(run).go();
        }
        check.end();
    }
}
