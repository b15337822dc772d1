import java.util.Random;

/** No call may throw, whatever its arguments and however many calls came ahead of it; what is refused changes nothing. */
public final class RobustTest {
    private static final int RUNS = 300, CALLS = 4000;
    private static final Checks checks = new Checks();
    private static final int[] EXTREMES = {Integer.MIN_VALUE, Integer.MAX_VALUE, -1, 0, 1, 2, 9, 10, 29, 30, 39, 40, 99, 100, 119, 120,
        150, 332, 333, 360, 999, 1000, 1499, 1500, 9999, 10000, 99999, 100000, 1000000, 1000001, -2000000000, 0x28282828, 0x3b74323d};

    private final Random random;
    private final BreadLands x = new BreadLands();

    private RobustTest(int seed) {
        random = new Random(seed);
    }

    public static void main(String[] args) {
        for (int seed = 0; seed < RUNS; seed++) {
            checks.part("seed " + seed);
            RobustTest run = new RobustTest(seed);
            int i = 0;
            try {
                for (; i < CALLS; i++) run.call(run.random.nextInt(33));
                checks.holds(true, "run");
            } catch (Throwable thrown) {
                checks.holds(false, "call " + i + " threw " + thrown);
            }
        }
        refusedChangesNothing();
        checks.end();
    }

    private int any() {
        switch (random.nextInt(8)) {
            case 0: return EXTREMES[random.nextInt(EXTREMES.length)];
            case 1: return random.nextInt();
            case 2: case 3: return random.nextInt(1500);
            default: return random.nextInt(12);
        }
    }

    private int call(int which) {
        int a = any(), b = any(), c = any();
        switch (which) {
            case 0: return x.place(a);
            case 1: return x.street(a, b, c);
            case 2: return x.way(a, b);
            case 3: return x.days(a);
            case 4: return x.rule(a, b);
            case 5: return x.open(a, b);
            case 6: return x.close(a);
            case 7: return x.reach(a, b);
            case 8: return x.whose(a);
            case 9: return x.ofShop(a, b);
            case 10: return x.foretold(a);
            case 11: return x.harm(a, b, c);
            case 12: return x.site(a);
            case 13: return x.best(a, b, c);
            case 14: return x.found(a);
            case 15: return x.feed(a, random.nextBoolean() ? b : "tfmys0123456789()+-*/<=>,;".charAt(random.nextInt(26)));
            case 16: return x.terms(a, b);
            case 17: return x.inForce(a, b, c);
            case 18: return x.gives(a, b, c);
            case 19: return x.month(a, b, c, any(), any());
            case 20: return x.isShort(a, b);
            case 21: return x.under(a, b);
            case 22: return x.pay(a, b);
            case 23: return x.owed(a);
            case 24: return x.led(a, b, c);
            case 25: return x.notice(a);
            case 26: return x.ofNotice(a, b);
            case 27: return x.gain(a, b);
            case 28: return x.spend(a);
            case 29: return x.load(a, b);
            case 30: return x.carts(a);
            case 31: return x.cart(a);
            default: return x.count(a);
        }
    }

    /** All that can be asked of an object, as one text. */
    private static String picture(BreadLands x) {
        StringBuilder s = new StringBuilder();
        for (int what = 0; what < 9; what++) s.append(x.count(what)).append(' ');
        for (int i = 0; i < 40; i++) {
            for (int what = 0; what < 8; what++) s.append(x.ofShop(i, what)).append(' ');
            for (int what = 0; what < 4; what++) s.append(x.ofNotice(i, what)).append(' ').append(x.led(i, 0, what)).append(' ');
            s.append(x.foretold(i)).append(' ').append(x.owed(i)).append(' ').append(x.whose(i)).append(' ').append(x.cart(i)).append(' ');
            s.append(x.found(i)).append(' ').append(x.isShort(i, 0)).append(' ').append(x.under(i, 0)).append(' ').append(x.gives(i, 0, 0));
            for (int j = 0; j < 30; j++) s.append(x.way(i, j)).append(' ');
        }
        for (int kind = 0; kind < 3; kind++) s.append(x.inForce(kind, 9999, 9999)).append(' ');
        return s.toString();
    }

    private static void refusedChangesNothing() {
        for (int seed = 1000; seed < 1060; seed++) {
            RobustTest run = new RobustTest(seed);
            checks.part("seed " + seed);
            for (int i = 0; i < 400; i++) {
                String before = picture(run.x);
                int which = run.random.nextInt(33);
                int answer = run.call(which);
                // A fault and a packing that cannot be empty the tape and the list; owed and pay answer less than 0 for CREDIT.
                boolean mayAnswerLess = which == 22 || which == 23;
                boolean refused = mayAnswerLess ? answer == BreadLands.NO_VALUE : answer < 0 && answer > -100;
                if (refused) checks.holds(before.equals(picture(run.x)), "call " + which + " refused with " + answer);
            }
        }
    }
}
