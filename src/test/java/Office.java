import java.util.ArrayList;
import java.util.List;

/** An object under test with the calls that were made on it, so that what a refused call has changed can be looked for. */
final class Office {
    interface Call {
        int on(BreadLands x);
    }

    private static final int LAST_CALL = 512;

    private final Checks checks;
    private final List<Call> made = new ArrayList<>();
    private final BreadLands x = new BreadLands();

    Office(Checks checks, int... doors) {
        this.checks = checks;
        places(doors);
    }

    int ask(Call call) {
        made.add(call);
        if (made.size() > LAST_CALL) checks.holds(false, "a test makes more than 512 calls");
        return call.on(x);
    }

    void due(int want, Call call, String what) {
        checks.due(want, ask(call), what);
    }

    /** The answer is as due, and an object shows the same with the call as without it. */
    void refused(int want, Call call, String what) {
        checks.due(want, call.on(remade()), what);
        for (int view = 0; view < Picture.VIEWS; view++) {
            BreadLands asked = remade();
            call.on(asked);
            Picture with = new Picture(asked, view);
            Picture without = new Picture(remade(), view);
            checks.holds(with.text().equals(without.text()), what + ": changes nothing, view " + view);
            if (made.size() + 1 + with.calls() > LAST_CALL) checks.holds(false, "a test makes more than 512 calls");
        }
    }

    /** What only tells something changes nothing either. */
    void told(int want, Call call, String what) {
        refused(want, call, what);
    }

    BreadLands remade() {
        BreadLands again = new BreadLands();
        for (Call call : made) call.on(again);
        return again;
    }

    void places(int... doors) {
        for (int d : doors) ask(x -> x.place(d));
    }

    /** Places of no doors in a row, each a street of a length from the one ahead of it. */
    void row(int count, int length) {
        for (int i = 0; i < count; i++) {
            int place = i;
            ask(x -> x.place(0));
            if (i > 0) ask(x -> x.street(place - 1, place, length));
        }
    }

    void open(int place, int who) {
        checks.holds(ask(x -> x.open(place, who)) >= 0, "a shop is opened at " + place + " by " + who);
    }

    /** Opens shops and closes them at once, at a place that stays without one. */
    void openAndClose(int shops, int place) {
        for (int i = 0; i < shops; i++) {
            int shop = ask(x -> x.open(place, 1401));
            due(1, x -> x.close(shop), "closed at once");
        }
    }

    void until(int day) {
        int now = x.count(3);
        for (int left = day - now; left > 0; left -= 360) {
            int n = Math.min(360, left);
            ask(x -> x.days(n));
        }
        checks.due(day, x.count(3), "DAY");
    }

    void feed(String text) {
        for (int i = 0; i < text.length(); i += 4) {
            int n = Math.min(4, text.length() - i);
            int v = 0;
            for (int j = n - 1; j >= 0; j--) v = v << 8 | text.charAt(i + j);
            int bytes = v;
            ask(x -> x.feed(n, bytes));
        }
    }

    int make(int kind, int day, String text) {
        feed(text);
        return ask(x -> x.terms(kind, day));
    }

    /** Terms that must be sound. */
    int terms(int kind, int day, String text) {
        int number = make(kind, day, text);
        checks.holds(number >= 0, "terms are made of " + text);
        return number;
    }
}
