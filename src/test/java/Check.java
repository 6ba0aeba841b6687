/** Counts what is not as due, and ends a test. */
final class Check {
    private static final int MOST_TOLD = 40;
    private final String name;
    private int looked = 0;
    private int wrong = 0;

    Check(String name) {
        this.name = name;
    }

    void due(String call, long got, long want) {
        looked++;
        if (got != want) {
            wrong(call + " answered " + got + ", due is " + want);
        }
    }

    void wrong(String what) {
        wrong++;
        if (wrong <= MOST_TOLD) {
            System.out.println(name + ": " + what);
        }
    }

    void end() {
        System.out.println(name + ": " + looked + " looked at, " + wrong + " wrong");
        if (wrong != 0 || looked == 0) {
            System.exit(1);
        }
    }

    /** Types a text and answers what its close answers. */
    static int close(KeyedFeelings x, String text) {
        for (int i = 0; i < text.length(); i++) {
            x.type(text.charAt(i));
        }
        return x.close();
    }

    static KeyedFeelings of(String text) {
        KeyedFeelings x = new KeyedFeelings();
        int answer = close(x, text);
        if (answer < 0) {
            throw new IllegalArgumentException(text + " is no close: " + answer);
        }
        return x;
    }
}
