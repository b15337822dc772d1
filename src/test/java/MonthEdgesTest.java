/** Promises 21 to 26: a test for each sentence that names an edge. */
public final class MonthEdgesTest {
    private static final int NONE = -1, STATE = -3, NO_VALUE = -2000000000;
    private static final int ROYALTY = 0, FUND = 1, CURE = 2;
    private static final int[] FAR_OUT = {Integer.MIN_VALUE, -1000000, -1, Integer.MAX_VALUE};
    private static final Checks checks = new Checks();

    public static void main(String[] args) throws ReflectiveOperationException {
        checks.runSentences(MonthEdgesTest.class);
        checks.end();
    }

    /** Shops of owner 1, each at a place of its own, opened on day 0. */
    private static Office shops(int count) {
        Office o = new Office(checks);
        for (int i = 0; i < count; i++) {
            o.places(1);
            o.open(i, 150);
        }
        return o;
    }

    private static void tell(Office o, int want, int shop, int month, int takings, int flour, int cards) {
        o.due(want, x -> x.month(shop, month, takings, flour, cards), "month " + month + " of shop " + shop);
    }

    private static void led(Office o, int shop, int month, int royalty, int fund, int royaltyPaid, int fundPaid, String what) {
        int[] want = {royalty, fund, royaltyPaid, fundPaid};
        for (int i = 0; i < 4; i++) {
            int which = i;
            o.told(want[i], x -> x.led(shop, month, which), "led " + i + " of month " + month + " " + what);
        }
    }

    // Promise 21: "A MONTH of a SHOP is told: what is DUE by it. NONE; STATE: it was told, it is not over, or the SHOP was not open on
    // its last DAY." TAKINGS 0 .. 99999, FLOUR and CARDS 0 .. 9999 each, MONTHS 0 .. 332.

    private static void p21_takingsFrom0To99999() {
        Office o = shops(1);
        o.terms(ROYALTY, 0, "t+1");
        o.ask(x -> x.days(60));
        o.refused(NONE, x -> x.month(0, 0, -1, 5, 5), "TAKINGS -1");
        o.refused(NONE, x -> x.month(0, 0, 100000, 5, 5), "TAKINGS 100000");
        for (int v : FAR_OUT) o.refused(NONE, x -> x.month(0, 0, v, 5, 5), "TAKINGS " + v);
        tell(o, 1, 0, 0, 0, 5, 5);
        tell(o, 100000, 0, 1, 99999, 5, 5);
    }

    private static void p21_flourFrom0To9999() {
        Office o = shops(1);
        o.terms(FUND, 0, "f+1");
        o.ask(x -> x.days(60));
        o.refused(NONE, x -> x.month(0, 0, 5, -1, 5), "FLOUR -1");
        o.refused(NONE, x -> x.month(0, 0, 5, 10000, 5), "FLOUR 10000");
        for (int v : FAR_OUT) o.refused(NONE, x -> x.month(0, 0, 5, v, 5), "FLOUR " + v);
        tell(o, 1, 0, 0, 5, 0, 5);
        tell(o, 10000, 0, 1, 5, 9999, 5);
    }

    private static void p21_cardsFrom0To9999() {
        Office o = shops(1);
        o.ask(x -> x.days(60));
        o.refused(NONE, x -> x.month(0, 0, 5, 0, -1), "CARDS -1");
        o.refused(NONE, x -> x.month(0, 0, 5, 0, 10000), "CARDS 10000");
        for (int v : FAR_OUT) o.refused(NONE, x -> x.month(0, 0, 5, 0, v), "CARDS " + v);
        tell(o, 0, 0, 0, 0, 0, 0);
        tell(o, 0, 0, 1, 9998, 0, 9999);
        o.told(0, x -> x.isShort(0, 0), "CARDS 0");
        o.told(1, x -> x.isShort(0, 1), "CARDS 9999");
    }

    private static void p21_monthFrom0To332() {
        Office o = shops(1);
        o.terms(ROYALTY, 0, "m+1");
        o.until(9989);
        o.refused(NONE, x -> x.month(0, -1, 5, 5, 5), "month -1");
        o.refused(NONE, x -> x.month(0, 333, 5, 5, 5), "month 333");
        o.refused(STATE, x -> x.month(0, 332, 5, 5, 5), "month 332 is not over");
        o.until(9999);
        for (int v : FAR_OUT) o.refused(NONE, x -> x.month(0, v, 5, 5, 5), "month " + v);
        o.refused(NONE, x -> x.month(0, 333, 5, 5, 5), "month 333 on the last day");
        tell(o, 1, 0, 0, 5, 5, 5);
        tell(o, 333, 0, 332, 5, 5, 5);
    }

    private static void p21_shopsThatAre() {
        Office o = shops(1);
        o.ask(x -> x.days(30));
        o.refused(NONE, x -> x.month(1, 0, 5, 5, 5), "a shop that is not yet");
        for (int v : FAR_OUT) o.refused(NONE, x -> x.month(v, 0, 5, 5, 5), "shop " + v);
        tell(o, 0, 0, 0, 5, 5, 5);
    }

    private static void p21_stateIfItWasTold() {
        Office o = shops(2);
        o.terms(ROYALTY, 0, "t");
        o.ask(x -> x.days(60));
        tell(o, 5, 0, 0, 5, 5, 5);
        o.refused(STATE, x -> x.month(0, 0, 5, 5, 5), "told as it was");
        o.refused(STATE, x -> x.month(0, 0, 7, 5, 5), "told otherwise");
        tell(o, 6, 0, 1, 6, 5, 5);
        tell(o, 8, 1, 0, 8, 5, 5);
        o.told(5, x -> x.led(0, 0, 0), "the first stands");
    }

    private static void p21_stateIfItIsNotOver() {
        Office o = shops(1);
        o.refused(STATE, x -> x.month(0, 0, 5, 5, 5), "its first day");
        o.ask(x -> x.days(29));
        o.refused(STATE, x -> x.month(0, 0, 5, 5, 5), "its last day");
        o.refused(STATE, x -> x.month(0, 1, 5, 5, 5), "a month ahead");
        o.refused(STATE, x -> x.month(0, 332, 5, 5, 5), "far ahead");
        o.ask(x -> x.days(1));
        o.refused(STATE, x -> x.month(0, 1, 5, 5, 5), "its first day");
        tell(o, 0, 0, 0, 5, 5, 5);
        o.ask(x -> x.days(29));
        o.refused(STATE, x -> x.month(0, 1, 5, 5, 5), "its last day");
        o.ask(x -> x.days(1));
        tell(o, 0, 0, 1, 5, 5, 5);
    }

    private static void p21_openedByItsLastDay() {
        Office o = shops(0);
        o.places(1, 1);
        o.ask(x -> x.days(29));
        o.open(0, 150);
        o.ask(x -> x.days(1));
        o.open(1, 150);
        o.ask(x -> x.days(60));
        tell(o, 0, 0, 0, 5, 5, 5);
        o.refused(STATE, x -> x.month(1, 0, 5, 5, 5), "opened the day behind its last one");
        tell(o, 0, 1, 1, 5, 5, 5);
    }

    private static void p21_notClosedByItsLastDay() {
        Office o = shops(3);
        o.ask(x -> x.days(58));
        o.ask(x -> x.close(0));
        o.ask(x -> x.days(1));
        o.ask(x -> x.close(1));
        o.ask(x -> x.days(1));
        o.ask(x -> x.close(2));
        o.refused(STATE, x -> x.month(0, 1, 5, 5, 5), "closed the day ahead of its last one");
        o.refused(STATE, x -> x.month(1, 1, 5, 5, 5), "closed on its last day");
        tell(o, 0, 2, 1, 5, 5, 5);
        for (int shop = 0; shop < 3; shop++) tell(o, 0, shop, 0, 5, 5, 5);
        o.ask(x -> x.days(30));
        o.refused(STATE, x -> x.month(2, 2, 5, 5, 5), "closed long ago");
    }

    private static void p21_openedAndClosedWithinIt() {
        Office o = shops(0);
        o.places(1);
        o.ask(x -> x.days(3));
        o.open(0, 150);
        o.ask(x -> x.days(3));
        o.ask(x -> x.close(0));
        o.ask(x -> x.days(30));
        o.refused(STATE, x -> x.month(0, 0, 5, 5, 5), "closed within it");
        Office last = shops(0);
        last.places(1);
        last.ask(x -> x.days(29));
        last.open(0, 150);
        last.ask(x -> x.close(0));
        last.ask(x -> x.days(30));
        last.refused(STATE, x -> x.month(0, 0, 5, 5, 5), "opened and closed on its last day");
    }

    private static void p21_notOpenOnceLapsed() {
        Office o = shops(1);
        o.terms(ROYALTY, 0, "1");
        o.terms(CURE, 0, "28");
        o.ask(x -> x.days(30));
        tell(o, 1, 0, 0, 5, 5, 5);
        o.due(58, x -> x.notice(0), "last day");
        o.ask(x -> x.days(30));
        o.refused(STATE, x -> x.month(0, 1, 5, 5, 5), "lapsed on its last day");
    }

    private static void p21_noneAheadOfState() {
        Office o = shops(1);
        o.ask(x -> x.days(30));
        tell(o, 0, 0, 0, 5, 5, 5);
        o.refused(NONE, x -> x.month(0, 0, 100000, 5, 5), "TAKINGS 100000 of a month that was told");
        o.refused(NONE, x -> x.month(0, 0, 5, 10000, 5), "FLOUR 10000 of a month that was told");
        o.refused(NONE, x -> x.month(0, 0, 5, 5, 10000), "CARDS 10000 of a month that was told");
        o.refused(NONE, x -> x.month(0, 1, -1, 5, 5), "TAKINGS -1 of a month that is not over");
        o.refused(NONE, x -> x.month(0, 1, 5, -1, 5), "FLOUR -1 of a month that is not over");
        o.refused(NONE, x -> x.month(0, 1, 5, 5, -1), "CARDS -1 of a month that is not over");
        o.refused(NONE, x -> x.month(0, 333, 5, 5, 5), "month 333 is not over");
    }

    private static void p21_dueIsRoyaltyAndFund() {
        Office o = shops(1);
        o.ask(x -> x.days(120));
        tell(o, 0, 0, 0, 500, 7, 5);
        o.terms(ROYALTY, 0, "t/10");
        tell(o, 50, 0, 1, 500, 7, 5);
        o.terms(FUND, 0, "f");
        tell(o, 57, 0, 2, 500, 7, 5);
        led(o, 0, 0, 0, 0, 0, 0, "without terms");
        led(o, 0, 1, 50, 0, 0, 0, "royalty alone");
        led(o, 0, 2, 50, 7, 0, 0, "both");
    }

    private static void p21_dueOf2000000() {
        Office o = shops(1);
        o.terms(ROYALTY, 0, "t*t");
        o.terms(FUND, 0, "999999+2");
        o.ask(x -> x.days(60));
        tell(o, 2000000, 0, 0, 1001, 0, 0);
        tell(o, 1000001, 0, 1, 1, 0, 0);
        led(o, 0, 0, 1000000, 1000000, 0, 0, "at most");
        o.told(3000001, x -> x.owed(0), "owed");
    }

    private static void p21_termsInForceOnItsLastDay() {
        Office o = shops(1);
        o.terms(ROYALTY, 0, "1");
        o.terms(ROYALTY, 59, "2");
        o.terms(ROYALTY, 90, "3");
        o.terms(FUND, 89, "10");
        o.ask(x -> x.days(120));
        tell(o, 1, 0, 0, 0, 0, 0);
        tell(o, 2, 0, 1, 0, 0, 0);
        tell(o, 12, 0, 2, 0, 0, 0);
        tell(o, 13, 0, 3, 0, 0, 0);
    }

    private static void p21_asKnownWhenItWasTold() {
        Office o = shops(2);
        o.terms(ROYALTY, 0, "1");
        o.ask(x -> x.days(60));
        tell(o, 1, 0, 0, 0, 0, 0);
        o.terms(ROYALTY, 0, "2");
        tell(o, 2, 0, 1, 0, 0, 0);
        tell(o, 2, 1, 0, 0, 0, 0);
        o.told(1, x -> x.led(0, 0, 0), "what was due then stays");
        o.told(3, x -> x.owed(0), "owed");
    }

    private static void p21_namesOfThatMonth() {
        Office o = shops(2);
        o.terms(ROYALTY, 0, "t*100+f*10+m");
        o.terms(FUND, 0, "s*10+y");
        o.until(420);
        o.ask(x -> x.close(1));
        tell(o, 300 + 20 + 20, 0, 0, 3, 2, 0);
        tell(o, 113 + 20 + 1, 0, 13, 1, 0, 9);
        led(o, 0, 0, 320, 20, 0, 0, "two shops were open");
        led(o, 0, 13, 113, 21, 0, 0, "two shops were open on day 419");
    }

    // Promise 22: "1 if a MONTH that was told is SHORT, else 0. NONE (also: it was not told)."

    private static void p22_notTold() {
        Office o = shops(2);
        o.ask(x -> x.days(90));
        tell(o, 0, 0, 1, 5, 5, 5);
        o.told(NONE, x -> x.isShort(0, 0), "not told");
        o.told(NONE, x -> x.isShort(0, 2), "not told");
        o.told(NONE, x -> x.isShort(0, 332), "not over");
        o.told(NONE, x -> x.isShort(1, 1), "told of another shop");
        o.told(1, x -> x.isShort(0, 1), "told");
    }

    private static void p22_shopsAndMonthsThatAre() {
        Office o = shops(1);
        o.ask(x -> x.days(30));
        tell(o, 0, 0, 0, 5, 5, 5);
        o.told(NONE, x -> x.isShort(1, 0), "a shop that is not yet");
        o.told(NONE, x -> x.isShort(0, -1), "month -1");
        o.told(NONE, x -> x.isShort(0, 333), "month 333");
        for (int v : FAR_OUT) {
            o.told(NONE, x -> x.isShort(v, 0), "shop " + v);
            o.told(NONE, x -> x.isShort(0, v), "month " + v);
        }
    }

    private static void p22_month332() {
        Office o = shops(1);
        o.until(9990);
        o.told(NONE, x -> x.isShort(0, 332), "not told");
        tell(o, 0, 0, 332, 5, 5, 5);
        o.told(1, x -> x.isShort(0, 332), "told");
    }

    private static void p22_lessThanFlourTimesBread() {
        Office o = shops(1);
        o.ask(x -> x.days(120));
        tell(o, 0, 0, 0, 40, 10, 0);
        tell(o, 0, 0, 1, 39, 10, 0);
        tell(o, 0, 0, 2, 41, 10, 0);
        tell(o, 0, 0, 3, 0, 0, 0);
        o.told(0, x -> x.isShort(0, 0), "just as much");
        o.told(1, x -> x.isShort(0, 1), "one less");
        o.told(0, x -> x.isShort(0, 2), "one more");
        o.told(0, x -> x.isShort(0, 3), "all 0");
    }

    private static void p22_lessThanCards() {
        Office o = shops(1);
        o.ask(x -> x.days(120));
        tell(o, 0, 0, 0, 100, 0, 100);
        tell(o, 0, 0, 1, 99, 0, 100);
        tell(o, 0, 0, 2, 101, 0, 100);
        tell(o, 0, 0, 3, 100, 25, 100);
        o.told(0, x -> x.isShort(0, 0), "just as much");
        o.told(1, x -> x.isShort(0, 1), "one less");
        o.told(0, x -> x.isShort(0, 2), "one more");
        o.told(0, x -> x.isShort(0, 3), "just as much as both, which are not summed");
    }

    private static void p22_eitherIsEnough() {
        Office o = shops(1);
        o.ask(x -> x.days(90));
        tell(o, 0, 0, 0, 100, 26, 0);
        tell(o, 0, 0, 1, 100, 0, 101);
        tell(o, 0, 0, 2, 100, 26, 101);
        for (int m = 0; m < 3; m++) {
            int month = m;
            o.told(1, x -> x.isShort(0, month), "month " + m);
        }
    }

    private static void p22_greatestFlourAndBread() {
        Office o = shops(1);
        o.ask(x -> x.days(60));
        o.ask(x -> x.rule(1, 99));
        tell(o, 0, 0, 0, 99999, 9999, 9999);
        tell(o, 0, 0, 1, 99999, 1010, 9999);
        o.told(1, x -> x.isShort(0, 0), "989901 of flour");
        o.told(0, x -> x.isShort(0, 1), "99990 of flour");
        o.ask(x -> x.rule(1, 0));
        o.told(0, x -> x.isShort(0, 0), "BREAD 0");
    }

    // Promise 23: "1 if a SHOP is UNDER up to a MONTH, else 0. NONE."

    private static final int SHORT = 1, FINE = 0;

    /** Months from 0 on, each SHORT or FINE. */
    private static Office months(int... states) {
        Office o = shops(1);
        o.until(30 * states.length);
        for (int m = 0; m < states.length; m++) tell(o, 0, 0, m, 4 - states[m], 1, 0);
        return o;
    }

    private static void under(Office o, int want, int month) {
        o.told(want, x -> x.under(0, month), "up to month " + month);
    }

    private static void p23_shopsAndMonthsThatAre() {
        Office o = months(SHORT, SHORT, SHORT);
        o.told(NONE, x -> x.under(1, 0), "a shop that is not yet");
        o.told(NONE, x -> x.under(0, -1), "month -1");
        o.told(NONE, x -> x.under(0, 333), "month 333");
        for (int v : FAR_OUT) {
            o.told(NONE, x -> x.under(v, 0), "shop " + v);
            o.told(NONE, x -> x.under(0, v), "month " + v);
        }
        under(o, 1, 332);
    }

    private static void p23_noneTold() {
        Office o = shops(1);
        under(o, 0, 0);
        under(o, 0, 332);
    }

    private static void p23_3OrMore() {
        Office o = months(SHORT, SHORT, FINE, SHORT, SHORT);
        int[] want = {0, 0, 0, 1, 1, 1};
        for (int m = 0; m < want.length; m++) under(o, want[m], m);
        under(months(SHORT, SHORT), 0, 1);
        under(months(SHORT, SHORT, SHORT), 1, 2);
        under(months(SHORT, SHORT, SHORT, SHORT, SHORT, SHORT), 1, 5);
    }

    private static void p23_atMostThe6LastOnes() {
        Office o = months(SHORT, SHORT, FINE, FINE, FINE, SHORT, FINE, FINE);
        under(o, 1, 5);
        under(o, 0, 6);
        under(o, 0, 7);
        Office p = months(SHORT, FINE, FINE, FINE, SHORT, SHORT, FINE);
        under(p, 1, 5);
        under(p, 0, 6);
    }

    private static void p23_monthsToldAlone() {
        Office o = shops(1);
        o.until(600);
        int[] told = {0, 3, 6, 9, 12, 15, 18};
        int[] takings = {3, 4, 3, 4, 4, 3, 4};
        for (int i = 0; i < told.length; i++) tell(o, 0, 0, told[i], takings[i], 1, 0);
        under(o, 0, 14);
        under(o, 1, 15);
        under(o, 1, 17);
        under(o, 0, 18);
        under(o, 0, 332);
        tell(o, 0, 0, 17, 3, 1, 0);
        under(o, 1, 17);
        under(o, 1, 18);
    }

    private static void p23_upToAMonthWithIt() {
        Office o = months(FINE, SHORT, SHORT, SHORT);
        under(o, 0, 2);
        under(o, 1, 3);
    }

    private static void p23_byNumbersNotAsTheyWereTold() {
        Office o = shops(1);
        o.until(300);
        int[] order = {6, 5, 4, 3, 2, 1, 0};
        int[] takings = {4, 4, 4, 4, 3, 3, 3};
        for (int i = 0; i < order.length; i++) tell(o, 0, 0, order[i], takings[i], 1, 0);
        under(o, 1, 2);
        under(o, 1, 5);
        under(o, 0, 6);
    }

    private static void p23_lastMonths() {
        Office o = shops(1);
        o.until(9999);
        for (int m = 330; m <= 332; m++) tell(o, 0, 0, m, 3, 1, 0);
        under(o, 0, 331);
        under(o, 1, 332);
    }

    // Promise 24: "So much (1 .. 1000000) is PAID by a SHOP: OWED then (less than 0: CREDIT). NO_VALUE: NONE."

    private static void p24_coinsFrom1To1000000() {
        Office o = shops(1);
        o.refused(NO_VALUE, x -> x.pay(0, 0), "0 coins");
        o.refused(NO_VALUE, x -> x.pay(0, 1000001), "1000001 coins");
        for (int v : FAR_OUT) o.refused(NO_VALUE, x -> x.pay(0, v), v + " coins");
        o.due(-1, x -> x.pay(0, 1), "1 coin");
        o.due(-1000001, x -> x.pay(0, 1000000), "1000000 coins");
    }

    private static void p24_shopsThatAre() {
        Office o = shops(1);
        o.refused(NO_VALUE, x -> x.pay(1, 5), "a shop that is not yet");
        for (int v : FAR_OUT) o.refused(NO_VALUE, x -> x.pay(v, 5), "shop " + v);
    }

    private static void p24_upToAllAndBeyond() {
        Office o = shops(1);
        o.terms(ROYALTY, 0, "10");
        o.ask(x -> x.days(30));
        tell(o, 10, 0, 0, 0, 0, 0);
        o.due(1, x -> x.pay(0, 9), "one is left");
        o.due(0, x -> x.pay(0, 1), "none is left");
        o.due(-1, x -> x.pay(0, 1), "CREDIT");
        led(o, 0, 0, 10, 0, 10, 0, "no more than was due");
    }

    private static void p24_royaltyThenFundThenTheNextMonth() {
        Office o = shops(1);
        o.terms(ROYALTY, 0, "10");
        o.terms(FUND, 0, "5");
        o.ask(x -> x.days(90));
        tell(o, 15, 0, 2, 0, 0, 0);
        tell(o, 15, 0, 0, 0, 0, 0);
        int[] coins = {9, 1, 1, 4, 1, 9, 5, 1};
        int[][] want = {{9, 0, 0, 0}, {10, 0, 0, 0}, {10, 1, 0, 0}, {10, 5, 0, 0}, {10, 5, 1, 0}, {10, 5, 10, 0}, {10, 5, 10, 5}, {10, 5, 10, 5}};
        int owed = 30;
        for (int i = 0; i < coins.length; i++) {
            int paid = coins[i];
            owed -= paid;
            o.due(owed, x -> x.pay(0, paid), "payment " + i);
            led(o, 0, 0, 10, 5, want[i][0], want[i][1], "behind payment " + i);
            led(o, 0, 2, 10, 5, want[i][2], want[i][3], "behind payment " + i);
            o.told(want[i][1] + want[i][3], x -> x.count(6), "coins in the fund");
        }
    }

    private static void p24_allAtOnce() {
        Office o = shops(1);
        o.terms(ROYALTY, 0, "10");
        o.terms(FUND, 0, "5");
        o.ask(x -> x.days(90));
        for (int m = 2; m >= 0; m--) tell(o, 15, 0, m, 0, 0, 0);
        o.due(2, x -> x.pay(0, 43), "over all months");
        led(o, 0, 1, 10, 5, 10, 5, "in between");
        led(o, 0, 2, 10, 5, 10, 3, "the last");
    }

    private static void p24_whatIsPaidStaysWhereItWasLed() {
        Office o = shops(1);
        o.terms(ROYALTY, 0, "10");
        o.ask(x -> x.days(60));
        tell(o, 10, 0, 1, 0, 0, 0);
        o.due(4, x -> x.pay(0, 6), "for month 1");
        tell(o, 10, 0, 0, 0, 0, 0);
        led(o, 0, 0, 10, 0, 0, 0, "an elder month told later");
        led(o, 0, 1, 10, 0, 6, 0, "what it has it keeps");
        o.due(5, x -> x.pay(0, 9), "the elder first");
        led(o, 0, 0, 10, 0, 9, 0, "the elder first");
    }

    private static void p24_creditIsUsedAsSoonAsSomethingIsDue() {
        Office o = shops(1);
        o.terms(ROYALTY, 0, "10");
        o.terms(FUND, 0, "5");
        o.due(-32, x -> x.pay(0, 32), "CREDIT");
        o.told(0, x -> x.count(6), "not in the fund");
        o.ask(x -> x.days(120));
        tell(o, 15, 0, 3, 0, 0, 0);
        o.told(-17, x -> x.owed(0), "CREDIT");
        led(o, 0, 3, 10, 5, 10, 5, "by credit");
        o.told(5, x -> x.count(6), "in the fund");
        tell(o, 15, 0, 0, 0, 0, 0);
        o.told(-2, x -> x.owed(0), "CREDIT");
        tell(o, 15, 0, 1, 0, 0, 0);
        o.told(13, x -> x.owed(0), "owed");
        led(o, 0, 1, 10, 5, 2, 0, "what was left of it");
        o.told(10, x -> x.count(6), "in the fund");
    }

    private static void p24_creditThatIsJustEnough() {
        Office o = shops(1);
        o.terms(ROYALTY, 0, "10");
        o.terms(FUND, 0, "5");
        o.ask(x -> x.pay(0, 15));
        o.ask(x -> x.days(60));
        tell(o, 15, 0, 0, 0, 0, 0);
        o.told(0, x -> x.owed(0), "nothing");
        tell(o, 15, 0, 1, 0, 0, 0);
        o.told(15, x -> x.owed(0), "no credit is left");
    }

    private static void p24_allMonths() {
        Office o = shops(1);
        o.terms(ROYALTY, 0, "3");
        o.terms(FUND, 0, "1");
        o.until(9990);
        for (int m = 332; m >= 0; m--) o.ask(told(m));
        checks.due(333 * 4, o.ask(x -> x.owed(0)), "owed for all of 333 months");
        checks.due(1, o.ask(x -> x.pay(0, 333 * 4 - 1)), "all but the last coin");
        checks.due(1, o.ask(x -> x.led(0, 0, 3)), "the first month's fund");
        checks.due(3, o.ask(x -> x.led(0, 332, 2)), "the last month's royalty");
        checks.due(0, o.ask(x -> x.led(0, 332, 3)), "the last month's fund");
        checks.due(332, o.ask(x -> x.count(6)), "coins in the fund");
        checks.due(0, o.ask(x -> x.pay(0, 1)), "the last coin");
        checks.due(1, o.ask(x -> x.led(0, 332, 3)), "the last month's fund");
    }

    private static Office.Call told(int month) {
        return x -> x.month(0, month, 0, 0, 0);
    }

    private static void p24_closedOnePays() {
        Office o = shops(1);
        o.terms(ROYALTY, 0, "10");
        o.ask(x -> x.days(30));
        o.ask(x -> x.close(0));
        tell(o, 10, 0, 0, 0, 0, 0);
        o.due(3, x -> x.pay(0, 7), "closed");
        o.due(-2, x -> x.pay(0, 5), "closed");
    }

    private static void p24_eachShopItsOwn() {
        Office o = shops(2);
        o.terms(ROYALTY, 0, "10");
        o.ask(x -> x.days(30));
        tell(o, 10, 0, 0, 0, 0, 0);
        o.due(-50, x -> x.pay(1, 50), "the other one's credit");
        o.told(10, x -> x.owed(0), "is not this one's");
        tell(o, 10, 1, 0, 0, 0, 0);
        o.told(-40, x -> x.owed(1), "but its own");
    }

    // Promise 25: "OWED (less than 0: CREDIT). NO_VALUE: NONE."

    private static void p25_shopsThatAre() {
        Office o = shops(1);
        o.told(NO_VALUE, x -> x.owed(1), "a shop that is not yet");
        for (int v : FAR_OUT) o.told(NO_VALUE, x -> x.owed(v), "shop " + v);
        o.told(0, x -> x.owed(0), "nothing at first");
    }

    private static void p25_sumOfAllMonths() {
        Office o = shops(1);
        o.terms(ROYALTY, 0, "t");
        o.terms(FUND, 0, "f");
        o.ask(x -> x.days(90));
        int[] want = {3, 33, 333};
        for (int m = 0; m < 3; m++) {
            int part = new int[] {3, 30, 300}[m];
            tell(o, part, 0, m, part - 1, 1, 0);
            o.told(want[m], x -> x.owed(0), "owed");
        }
        o.ask(x -> x.pay(0, 334));
        o.told(-1, x -> x.owed(0), "CREDIT is less than 0");
    }

    private static void p25_greatCredit() {
        Office o = shops(1);
        for (int i = 0; i < 400; i++) o.ask(x -> x.pay(0, 1000000));
        checks.due(-400000000, o.ask(x -> x.owed(0)), "a credit of 400000000");
    }

    // Promise 26: "LED: of a MONTH: 0 ROYALTY DUE, 1 FUND DUE, 2 ROYALTY PAID, 3 FUND PAID. NONE (also: it was not told)."

    private static void p26_whatFrom0To3() {
        Office o = shops(1);
        o.terms(ROYALTY, 0, "10");
        o.terms(FUND, 0, "6");
        o.ask(x -> x.days(30));
        tell(o, 16, 0, 0, 0, 0, 0);
        o.ask(x -> x.pay(0, 13));
        led(o, 0, 0, 10, 6, 10, 3, "in part");
        o.told(NONE, x -> x.led(0, 0, -1), "what -1");
        o.told(NONE, x -> x.led(0, 0, 4), "what 4");
        for (int v : FAR_OUT) o.told(NONE, x -> x.led(0, 0, v), "what " + v);
    }

    private static void p26_shopsAndMonthsThatAre() {
        Office o = shops(1);
        o.ask(x -> x.days(30));
        tell(o, 0, 0, 0, 0, 0, 0);
        o.told(NONE, x -> x.led(1, 0, 0), "a shop that is not yet");
        o.told(NONE, x -> x.led(0, -1, 0), "month -1");
        o.told(NONE, x -> x.led(0, 333, 0), "month 333");
        for (int v : FAR_OUT) {
            o.told(NONE, x -> x.led(v, 0, 0), "shop " + v);
            o.told(NONE, x -> x.led(0, v, 0), "month " + v);
        }
    }

    private static void p26_notTold() {
        Office o = shops(2);
        o.ask(x -> x.days(90));
        tell(o, 0, 0, 1, 0, 0, 0);
        for (int i = 0; i <= 3; i++) {
            int what = i;
            o.told(NONE, x -> x.led(0, 0, what), "not told");
            o.told(NONE, x -> x.led(0, 2, what), "not told");
            o.told(NONE, x -> x.led(1, 1, what), "told of another shop");
            o.told(0, x -> x.led(0, 1, what), "told, with nothing due");
        }
    }

    private static void p26_month332() {
        Office o = shops(1);
        o.terms(ROYALTY, 0, "9");
        o.until(9990);
        o.told(NONE, x -> x.led(0, 332, 0), "not told");
        tell(o, 9, 0, 332, 0, 0, 0);
        o.ask(x -> x.pay(0, 4));
        led(o, 0, 332, 9, 0, 4, 0, "the last month");
    }
}
