import java.util.Random;

/** Random runs of calls, each answer held against that of NaiveLands. The seeds are fixed. */
public final class ModelTest {
    private static final int RUNS = 1500, CALLS = 512;
    private static final Checks checks = new Checks();

    private final Random random;
    private final BreadLands x = new BreadLands();
    private final NaiveLands y = new NaiveLands();
    private final int seed;
    private final int bias;
    private int calls;
    private int toldShop = -1;
    private int toldMonth = -1;

    private ModelTest(int seed) {
        this.seed = seed;
        random = new Random(seed);
        bias = seed % 6;
    }

    public static void main(String[] args) {
        for (int seed = 0; seed < RUNS && checks.wrong() < 20; seed++) new ModelTest(seed).run();
        checks.part("faults");
        Random random = new Random(99);
        for (int i = 0; i < 20000 && checks.wrong() < 40; i++) {
            String text = mutated(random, text(random, 3));
            BreadLands x = new BreadLands();
            for (int j = 0; j < text.length(); j++) x.feed(1, text.charAt(j));
            int fault = NaiveLands.faultOf(text);
            checks.due(fault < 0 ? 0 : -100 - fault, x.terms(0, 0), "terms of " + text);
        }
        checks.end();
    }

    private void due(int want, int got, String call, int... args) {
        calls++;
        if (calls > CALLS) return;
        if (want != got) checks.part("seed " + seed + ", call " + calls);
        checks.due(want, got, call + java.util.Arrays.toString(args));
    }

    private int upTo(int most) {
        return random.nextInt(most + 1);
    }

    /** Mostly a number within a range, at times one on or beyond its ends. */
    private int near(int least, int most) {
        switch (random.nextInt(60)) {
            case 0: return least - 1;
            case 1: return most + 1;
            case 2: return least;
            case 3: return most;
            case 4: return random.nextInt();
            default: return least + upTo(most - least);
        }
    }

    private int aPlace() {
        return near(0, Math.max(0, y.count(0) - 1));
    }

    private int aShop() {
        int last = Math.max(0, y.count(1) - 1);
        return bias == 4 ? near(Math.max(0, last - 3), last) : near(0, last);
    }

    private int aMonth() {
        int now = y.count(3) / 30;
        return random.nextInt(4) == 0 ? near(0, 332) : near(Math.max(0, now - 8), Math.max(0, Math.min(332, now)));
    }

    private int aWho() {
        return random.nextInt(30) == 0 ? near(0, 1500) : 100 * upTo(bias < 3 ? 2 : 14) + near(1, 99);
    }

    private void run() {
        int places = 2 + upTo(28);
        for (int i = 0; i < places; i++) place();
        for (int i = 0; i < places + upTo(20); i++) street();
        for (int i = 0; i < 6; i++) open();
        if (bias == 4) {
            make(0, "t>5000,t/10;100");
            make(1, "f/4+50");
            make(2, "s*" + upTo(9) + "+m/9");
        }
        while (calls < CALLS) {
            if (bias == 4) moneyStep();
            else step();
        }
    }

    /** Runs about few shops that stay open for long, so that months, payments and notices meet. */
    private void moneyStep() {
        switch (random.nextInt(12)) {
            case 0: case 1:
                int n = near(1, 30);
                due(y.days(n), x.days(n), "days", n);
                break;
            case 2: case 3: case 4: month(); break;
            case 5: case 6: case 7: pay(); break;
            case 8: notice(); break;
            case 9: fund(); break;
            case 10:
                if (random.nextInt(6) == 0) terms();
                else gives();
                break;
            default:
                if (random.nextInt(10) == 0) step();
                else count();
        }
    }

    private void step() {
        switch (random.nextInt(bias == 5 ? 28 : 24)) {
            case 0: case 1: town(); break;
            case 2: case 3: case 4: open(); break;
            case 5: case 6: reach(); break;
            case 7: case 8: case 9: foretold(); break;
            case 10: best(); break;
            case 11: case 12: terms(); break;
            case 13: gives(); break;
            case 14: case 15: case 16: month(); break;
            case 17: case 18: pay(); break;
            case 19: notice(); break;
            case 20: fund(); break;
            case 21: carts(); break;
            case 22: count(); break;
            default: days(); break;
        }
    }

    private void place() {
        int d = random.nextInt(8) == 0 ? 0 : near(0, 999);
        due(y.place(d), x.place(d), "place", d);
    }

    private void street() {
        int a = aPlace(), b = aPlace(), l = bias % 2 == 0 ? near(1, 9) : near(1, 99);
        due(y.street(a, b, l), x.street(a, b, l), "street", a, b, l);
    }

    private void town() {
        int a = aPlace(), b = aPlace(), what = near(0, 1), v = near(0, 99);
        switch (random.nextInt(6)) {
            case 0: place(); break;
            case 1: street(); break;
            case 2: case 3: due(y.way(a, b), x.way(a, b), "way", a, b); break;
            case 4: due(y.rule(what, v), x.rule(what, v), "rule", what, v); break;
            default: due(y.site(a), x.site(a), "site", a); break;
        }
    }

    private void days() {
        int n = random.nextInt(3) == 0 ? near(1, 360) : near(1, bias < 2 ? 8 : 45);
        due(y.days(n), x.days(n), "days", n);
    }

    private void open() {
        int p = aPlace(), who = aWho(), s = aShop();
        if (random.nextInt(8) == 0) due(y.close(s), x.close(s), "close", s);
        else due(y.open(p, who), x.open(p, who), "open", p, who);
    }

    private void reach() {
        int p = aPlace(), s = aShop(), what = near(0, 7), v = random.nextInt(3) == 0 ? 0 : near(0, 20);
        switch (random.nextInt(3)) {
            case 0: due(y.reach(s, v), x.reach(s, v), "reach", s, v); break;
            case 1: due(y.whose(p), x.whose(p), "whose", p); break;
            default: due(y.ofShop(s, what), x.ofShop(s, what), "ofShop", s, what); break;
        }
    }

    private void foretold() {
        int p = aPlace(), s = aShop(), like = near(1, 99);
        if (random.nextBoolean()) due(y.foretold(s), x.foretold(s), "foretold", s);
        else due(y.harm(s, p, like), x.harm(s, p, like), "harm", s, p, like);
    }

    private void best() {
        int p = aPlace(), n = near(1, 3), who = aWho(), h = near(0, random.nextBoolean() ? 300 : 1000);
        due(y.site(p), x.site(p), "site", p);
        due(y.best(n, who, h), x.best(n, who, h), "best", n, who, h);
        for (int i = -1; i <= 3; i++) due(y.found(i), x.found(i), "found", i);
    }

    private static String text(Random random, int depth) {
        StringBuilder s = new StringBuilder();
        int bands = 1 + random.nextInt(3);
        for (int i = 0; i < bands; i++) {
            if (i > 0) s.append(';');
            if (random.nextInt(3) > 0) s.append(sum(random, depth)).append("<=>".charAt(random.nextInt(3))).append(sum(random, depth)).append(',');
            s.append(sum(random, depth));
        }
        return s.length() > 120 ? s.substring(0, 120) : s.toString();
    }

    private static String sum(Random random, int depth) {
        StringBuilder s = new StringBuilder();
        int parts = 1 + random.nextInt(depth > 0 ? 3 : 2);
        for (int i = 0; i < parts; i++) {
            if (i > 0) s.append("+-*/".charAt(random.nextInt(4)));
            int kind = random.nextInt(depth > 0 ? 7 : 5);
            if (kind >= 5) s.append('(').append(sum(random, depth - 1)).append(')');
            else if (kind >= 2) s.append("tfmys".charAt(random.nextInt(5)));
            else s.append(random.nextInt(kind == 0 ? 12 : 1000000));
        }
        return s.toString();
    }

    private static String mutated(Random random, String text) {
        StringBuilder s = new StringBuilder(text);
        for (int i = random.nextInt(3); i > 0 && s.length() > 0; i--) {
            int at = random.nextInt(s.length());
            char c = "tfmys0123456789(((()))+-*/<=>,; a".charAt(random.nextInt(33));
            switch (random.nextInt(4)) {
                case 0: s.setCharAt(at, c); break;
                case 1: s.insert(at, c); break;
                case 2: s.deleteCharAt(at); break;
                default: s.setLength(at); break;
            }
        }
        if (random.nextInt(4) == 0) s.insert(0, "(".repeat(random.nextInt(10)));
        if (random.nextInt(6) == 0) s.append(")".repeat(random.nextInt(10)));
        return s.length() > 120 ? s.substring(0, 120) : s.toString();
    }

    private void make(int kind, String text) {
        for (int i = 0; i < text.length(); i++) due(y.feed(1, text.charAt(i)), x.feed(1, text.charAt(i)), "feed");
        due(y.terms(kind, 0), x.terms(kind, 0), "terms of " + text, kind, 0);
    }

    private void terms() {
        String text = text(random, 2);
        if (random.nextInt(5) == 0) text = mutated(random, text);
        if (text.length() > 40 && random.nextInt(4) > 0) text = sum(random, 1);
        if (random.nextInt(4) == 0) text = "" + random.nextInt(40);
        for (int i = 0; i < text.length(); i += 4) {
            int n = Math.min(4, text.length() - i);
            int v = 0;
            for (int j = n - 1; j >= 0; j--) v = v << 8 | text.charAt(i + j);
            due(y.feed(n, v), x.feed(n, v), "feed", n, v);
        }
        int kind = near(0, 2), d = random.nextBoolean() ? 0 : near(0, Math.min(9999, y.count(3) + 100));
        due(y.terms(kind, d), x.terms(kind, d), "terms of " + text, kind, d);
    }

    private void gives() {
        int kind = near(0, 2), d = near(0, 9999), k = near(0, Math.max(1, y.count(3)));
        due(y.inForce(kind, d, k), x.inForce(kind, d, k), "inForce", kind, d, k);
        int t = near(0, Math.max(0, y.count(4) - 1)), s = aShop(), m = aMonth();
        due(y.gives(t, s, m), x.gives(t, s, m), "gives", t, s, m);
    }

    private void month() {
        int s = aShop(), m = aMonth(), f = near(0, random.nextBoolean() ? 200 : 9999), c = near(0, 9999);
        int t = random.nextBoolean() ? near(0, 99999) : near(0, 2000);
        int due = y.month(s, m, t, f, c);
        due(due, x.month(s, m, t, f, c), "month", s, m, t, f, c);
        if (due >= 0) {
            toldShop = s;
            toldMonth = m;
        }
        if (random.nextBoolean()) due(y.under(s, m), x.under(s, m), "under", s, m);
        int other = aMonth();
        due(y.isShort(s, other), x.isShort(s, other), "isShort", s, other);
    }

    private void pay() {
        int s = aShop(), what = near(0, 3), owed = y.owed(s);
        int m = toldMonth >= 0 && random.nextInt(4) > 0 ? toldMonth : aMonth();
        if (toldMonth >= 0 && random.nextBoolean()) s = toldShop;
        int coins = near(1, random.nextBoolean() ? 300 : 3000);
        if (random.nextInt(12) == 0) coins = near(1, 1000000);
        if (owed > 0 && random.nextInt(3) == 0) coins = Math.min(owed, 1000000);
        if (owed > 0 || bias != 4 || random.nextInt(8) == 0) due(y.pay(s, coins), x.pay(s, coins), "pay", s, coins);
        due(y.owed(s), x.owed(s), "owed", s);
        due(y.led(s, m, what), x.led(s, m, what), "led", s, m, what);
    }

    private void notice() {
        int s = aShop();
        due(y.notice(s), x.notice(s), "notice", s);
        int other = random.nextBoolean() ? s : aShop();
        for (int what = -1; what <= 4; what++) due(y.ofNotice(other, what), x.ofNotice(other, what), "ofNotice", other, what);
    }

    private void fund() {
        for (int i = 0; i < 3; i++) {
            int s = aShop(), v = near(0, random.nextBoolean() ? 3 : 999);
            due(y.gain(s, v), x.gain(s, v), "gain", s, v);
        }
        int sum = near(1, Math.max(1, Math.min(1000000, random.nextBoolean() ? 50 : y.count(6) + 1)));
        due(y.spend(sum), x.spend(sum), "spend", sum);
        int s = aShop();
        due(y.ofShop(s, 7), x.ofShop(s, 7), "ofShop", s, 7);
    }

    private void carts() {
        int loads = upTo(bias < 3 ? 6 : 8), most = random.nextBoolean() ? 99 : 30;
        for (int i = 0; i < loads; i++) {
            int s = aShop(), l = near(1, most);
            due(y.load(s, l), x.load(s, l), "load", s, l);
        }
        if (random.nextInt(3) == 0) return;
        int r = random.nextBoolean() ? near(1, 99) : 50 + upTo(49);
        due(y.carts(r), x.carts(r), "carts", r);
        for (int i = 0; i < 4; i++) {
            int s = aShop();
            due(y.cart(s), x.cart(s), "cart", s);
        }
    }

    private void count() {
        for (int what = -1; what <= 9; what++) due(y.count(what), x.count(what), "count", what);
    }
}
