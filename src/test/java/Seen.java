/** All that an object's calls can tell of it, as a text; the object is used up by it. */
final class Seen {
    private final KeyedFeelings x;
    private final StringBuilder text = new StringBuilder();

    private Seen(KeyedFeelings x) {
        this.x = x;
    }

    static String all(KeyedFeelings x) {
        Seen seen = new Seen(x);
        seen.moment();
        seen.sheets();
        seen.past();
        seen.text.append(" image ").append(x.restore());
        seen.moment();
        seen.past();
        seen.text.append(" tape ").append(x.type('g')).append(' ').append(x.close());
        seen.moment();
        return seen.text.toString();
    }

    private void moment() {
        text.append(" hour ").append(x.count(1)).append(" known ").append(x.count(7));
        for (int person = 0; person < x.count(0); person++) {
            text.append(" one");
            for (int what = 0; what < 4; what++) {
                text.append(' ').append(x.of(person, what));
            }
        }
        int draw = x.seed(0);
        x.seed(draw);
        text.append(" draw ").append(draw);
    }

    /** One time more than may be undone. */
    private void past() {
        for (int each = 0; each < 9; each++) {
            int left = x.undo();
            text.append(" undone ").append(left);
            if (left >= 0) {
                moment();
            }
        }
    }

    /** Item -1 tells the lane by what the machine finds, and changes nothing. */
    private void sheets() {
        for (int sheet = 0; sheet < 4; sheet++) {
            for (int lane = 0; lane < 4; lane++) {
                int found = x.item(sheet, lane, -1, 0);
                text.append(lane == 0 ? " sheet " : " ").append(found);
                if (found == Edges.INDEX) {
                    items(sheet, lane);
                }
            }
        }
    }

    /** An item is told by the turns in one by which he would run so: none, if it is not of 0 to 30. */
    private void items(int sheet, int lane) {
        int heard = 0;
        for (int i = 0; i <= 24 && heard >= 0; i++) {
            heard = x.heard(0, sheet, lane, i, 1, 1);
            text.append(" item ").append(heard);
        }
    }
}
