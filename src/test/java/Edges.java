import java.util.function.Supplier;
import java.util.function.ToIntFunction;

/** What the tests of edges share: the sentence that is looked at, and closes to begin with. */
final class Edges {
    static final String TERMS = "Terms";
    static final int BAD = -1, NOT = -2, FULL = -3, NONE = -4, NULL = -11, CAST = -12, INDEX = -13, SIZE = -14;
    static final int LEAST = Integer.MIN_VALUE, MOST = Integer.MAX_VALUE;

    private final Check check;
    private final Sentences sentences;
    private String said = "";
    private int lookedAt = 1;

    Edges(Check check, Sentences sentences) {
        this.check = check;
        this.sentences = sentences;
    }

    /** From here on this sentence is looked at; one that nothing was looked at for is wrong. */
    void says(String section, String words) {
        end();
        said = section + " '" + words + "': ";
        lookedAt = 0;
        if (sentences != null && !sentences.quote(section, words)) {
            check.wrong(said + "does not stand in the document");
        }
    }

    void says(int promise, String words) {
        says("Promise " + promise, words);
    }

    void end() {
        if (lookedAt == 0) {
            check.wrong(said + "has no test");
        }
    }

    void due(String call, long got, long want) {
        lookedAt++;
        check.due(said + call, got, want);
    }

    void same(String what, String got, String want) {
        lookedAt++;
        check.due(said + what, got.equals(want) ? 1 : 0, 1);
        if (!got.equals(want)) {
            check.wrong(said + what + "\n  is  " + got + "\n  due " + want);
        }
    }

    /** The call answers so, and behind it all is as in a twin that it was not called on. */
    void unchanged(String call, Supplier<KeyedFeelings> twins, ToIntFunction<KeyedFeelings> refused, int answer) {
        KeyedFeelings x = twins.get();
        due(call, refused.applyAsInt(x), answer);
        same(call + " changes nothing", Seen.all(x), Seen.all(twins.get()));
    }

    /** The turns of the first of the people. */
    void turns(String what, KeyedFeelings x, int... want) {
        for (int person = 0; person < want.length; person++) {
            due(what + ": turns of " + person, x.of(person, 1), want[person]);
        }
    }

    /** An empty close in an hour. */
    static KeyedFeelings atHour(int hour) {
        KeyedFeelings x = new KeyedFeelings();
        for (int left = hour; left > 0; left -= 48) {
            x.hours(Math.min(48, left));
        }
        return x;
    }

    /** One more of the people there, told whom to wind and cut at once. */
    static int join(KeyedFeelings x, int kind, int turns, int winds, int key) {
        int person = x.person(kind, turns);
        x.tell(person, winds);
        x.cut(person, key);
        return person;
    }

    static void fill(KeyedFeelings x, int sheet, int lane, long... items) {
        x.sheet(sheet, lane, items.length);
        for (int i = 0; i < items.length; i++) {
            x.item(sheet, lane, i, items[i]);
        }
    }
}
