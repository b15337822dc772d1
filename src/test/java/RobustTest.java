import java.util.Random;

/** No call may throw, whatever its arguments and however many calls came ahead of it; what is refused changes nothing. */
public final class RobustTest {
    private static final int RUNS = 300, CALLS = 4000;
    private static final Checks checks = new Checks();
    private static final int[] EXTREMES = {Integer.MIN_VALUE, Integer.MAX_VALUE, -1, 0, 1, 2, 9, 10, 29, 30, 39, 40, 99, 100, 119, 120,
        150, 332, 333, 360, 999, 1000, 1499, 1500, 9999, 10000, 99999, 100000, 1000000, 1000001, -2000000000, 0x28282828, 0x3b74323d};

    private final Random random;

    private RobustTest(int seed) {
        random = new Random(seed);
    }

    public static void main(String[] args) {
        for (int seed = 0; seed < RUNS; seed++) {
            checks.part("seed " + seed);
            new RobustTest(seed).nothingIsThrown();
        }
        for (int seed = 1000; seed < 1100; seed++) {
            checks.part("seed " + seed);
            new RobustTest(seed).refusedChangesNothing();
        }
        checks.end();
    }

    private void nothingIsThrown() {
        BreadLands x = new BreadLands();
        int i = 0;
        try {
            for (; i < CALLS; i++) call(random.nextInt(33)).on(x);
            checks.holds(true, "run");
        } catch (Throwable thrown) {
            checks.holds(false, "call " + i + " threw " + thrown);
        }
    }

    private void refusedChangesNothing() {
        Office o = new Office(checks, 10, 20, 30);
        for (int i = 0; i < 2; i++) o.open(i, 101 + 100 * i);
        if (random.nextBoolean()) o.terms(random.nextInt(3), 0, "t/2+s");
        if (random.nextBoolean()) o.until(30 * random.nextInt(4));
        for (int i = 0; i < 60; i++) {
            int which = random.nextInt(33);
            Office.Call call = call(which);
            int answer = call.on(o.remade());
            // A fault and a packing that cannot be empty the tape and the list; owed and pay answer less than 0 for CREDIT.
            boolean mayAnswerLess = which == 22 || which == 23;
            boolean refused = mayAnswerLess ? answer == BreadLands.NO_VALUE : answer < 0 && answer > -100;
            boolean empties = which == 30 && answer == BreadLands.NOT;
            if (refused && !empties) o.refused(answer, call, "call " + which + " that answers " + answer);
            else o.ask(call);
        }
    }

    private int any() {
        switch (random.nextInt(8)) {
            case 0: return EXTREMES[random.nextInt(EXTREMES.length)];
            case 1: return random.nextInt();
            case 2: case 3: return random.nextInt(1500);
            default: return random.nextInt(12);
        }
    }

    private Office.Call call(int which) {
        int a = any(), b = any(), c = any(), d = any(), e = any();
        int bytes = random.nextBoolean() ? b : "tfmys0123456789()+-*/<=>,;".charAt(random.nextInt(26));
        switch (which) {
            case 0: return x -> x.place(a);
            case 1: return x -> x.street(a, b, c);
            case 2: return x -> x.way(a, b);
            case 3: return x -> x.days(a);
            case 4: return x -> x.rule(a, b);
            case 5: return x -> x.open(a, b);
            case 6: return x -> x.close(a);
            case 7: return x -> x.reach(a, b);
            case 8: return x -> x.whose(a);
            case 9: return x -> x.ofShop(a, b);
            case 10: return x -> x.foretold(a);
            case 11: return x -> x.harm(a, b, c);
            case 12: return x -> x.site(a);
            case 13: return x -> x.best(a, b, c);
            case 14: return x -> x.found(a);
            case 15: return x -> x.feed(a, bytes);
            case 16: return x -> x.terms(a, b);
            case 17: return x -> x.inForce(a, b, c);
            case 18: return x -> x.gives(a, b, c);
            case 19: return x -> x.month(a, b, c, d, e);
            case 20: return x -> x.isShort(a, b);
            case 21: return x -> x.under(a, b);
            case 22: return x -> x.pay(a, b);
            case 23: return x -> x.owed(a);
            case 24: return x -> x.led(a, b, c);
            case 25: return x -> x.notice(a);
            case 26: return x -> x.ofNotice(a, b);
            case 27: return x -> x.gain(a, b);
            case 28: return x -> x.spend(a);
            case 29: return x -> x.load(a, b);
            case 30: return x -> x.carts(a);
            case 31: return x -> x.cart(a);
            default: return x -> x.count(a);
        }
    }
}
