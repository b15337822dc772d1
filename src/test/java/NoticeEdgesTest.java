/** Promises 27 and 28: a test for each sentence that names an edge. */
public final class NoticeEdgesTest {
    private static final int NONE = -1, STATE = -3;
    private static final int ROYALTY = 0, FUND = 1, CURE = 2;
    private static final int RUNNING = 0, CURED = 1, LAPSED = 2, SHUT = 3;
    private static final int[] FAR_OUT = {Integer.MIN_VALUE, -1000000, -1, Integer.MAX_VALUE};
    private static final Checks checks = new Checks();

    public static void main(String[] args) throws ReflectiveOperationException {
        checks.runSentences(NoticeEdgesTest.class);
        checks.end();
    }

    /** Shops of owner 1 on day 60, each owing 10 for month 0, with CURE terms of so many days. */
    private static Office owing(int shops, int cure) {
        Office o = new Office(checks);
        for (int i = 0; i < shops; i++) {
            o.places(1);
            o.open(i, 150);
        }
        o.terms(ROYALTY, 0, "10");
        if (cure >= 0) o.terms(CURE, 0, "" + cure);
        o.ask(x -> x.days(60));
        for (int i = 0; i < shops; i++) {
            int shop = i;
            o.due(10, x -> x.month(shop, 0, 0, 0, 0), "due");
        }
        return o;
    }

    private static void of(Office o, int shop, int day, int lastDay, int state, int endDay, String what) {
        int[] want = {day, lastDay, state, endDay};
        for (int i = 0; i < 4; i++) {
            int which = i;
            o.told(want[i], x -> x.ofNotice(shop, which), "of notice " + i + " " + what);
        }
    }

    // Promise 27: "A NOTICE: its last DAY. NONE; STATE: nothing is OWED, one is running, or it is closed."

    private static void p27_shopsThatAre() {
        Office o = owing(1, 3);
        o.refused(NONE, x -> x.notice(1), "a shop that is not yet");
        for (int v : FAR_OUT) o.refused(NONE, x -> x.notice(v), "shop " + v);
        o.due(63, x -> x.notice(0), "the first");
    }

    private static void p27_stateIfNothingIsOwed() {
        Office o = owing(1, 3);
        o.places(1);
        o.open(1, 150);
        o.refused(STATE, x -> x.notice(1), "nothing was ever due");
        o.ask(x -> x.pay(0, 9));
        o.due(63, x -> x.notice(0), "one coin is owed");
        o.ask(x -> x.pay(0, 1));
        o.refused(STATE, x -> x.notice(0), "all is paid");
        o.ask(x -> x.pay(0, 5));
        o.refused(STATE, x -> x.notice(0), "credit");
    }

    private static void p27_stateIfNothingIsDueByAMonth() {
        Office o = new Office(checks, 1);
        o.open(0, 150);
        o.ask(x -> x.days(30));
        o.ask(x -> x.month(0, 0, 5, 5, 5));
        o.refused(STATE, x -> x.notice(0), "a month of nothing due");
    }

    private static void p27_stateIfOneIsRunning() {
        Office o = owing(2, 3);
        o.due(63, x -> x.notice(0), "the first");
        o.refused(STATE, x -> x.notice(0), "one is running");
        o.ask(x -> x.days(3));
        o.refused(STATE, x -> x.notice(0), "one is running on its last day");
        o.due(66, x -> x.notice(1), "another shop's");
    }

    private static void p27_stateIfItIsClosed() {
        Office o = owing(2, 3);
        o.ask(x -> x.close(0));
        o.refused(STATE, x -> x.notice(0), "closed by a call");
        o.due(63, x -> x.notice(1), "the other");
        o.ask(x -> x.days(4));
        o.refused(STATE, x -> x.notice(1), "lapsed");
        o.told(10, x -> x.owed(1), "it is owed still");
    }

    private static void p27_aNewOneBehindACuredOne() {
        Office o = owing(1, 3);
        o.ask(x -> x.notice(0));
        o.ask(x -> x.pay(0, 10));
        o.refused(STATE, x -> x.notice(0), "nothing is owed");
        o.ask(x -> x.days(1));
        o.ask(x -> x.month(0, 1, 0, 0, 0));
        o.due(64, x -> x.notice(0), "a new one");
        of(o, 0, 61, 64, RUNNING, -1, "of the latest");
    }

    private static void p27_dayAndCure() {
        int[] cures = {0, 1, 5, 360, 999999};
        for (int cure : cures) {
            Office o = owing(1, cure);
            o.due(60 + cure, x -> x.notice(0), "CURE " + cure);
            of(o, 0, 60, 60 + cure, RUNNING, -1, "of CURE " + cure);
        }
        Office most = owing(1, -1);
        most.terms(CURE, 0, "999999+5");
        most.due(1000060, x -> x.notice(0), "1000000 at most");
    }

    private static void p27_withoutCureTerms() {
        Office o = owing(1, -1);
        o.due(60, x -> x.notice(0), "without any it gives 0");
        o.told(RUNNING, x -> x.ofNotice(0, 2), "that day it runs");
        o.ask(x -> x.days(1));
        o.told(LAPSED, x -> x.ofNotice(0, 2), "the day behind it is lapsed");
    }

    private static void p27_lessThan0DaysAre0() {
        Office o = owing(1, -1);
        o.terms(CURE, 0, "0-5");
        o.due(60, x -> x.notice(0), "0 at least");
    }

    private static void p27_termsInForceThatDay() {
        Office o = owing(2, 3);
        o.terms(CURE, 61, "7");
        o.due(63, x -> x.notice(0), "for tomorrow");
        o.ask(x -> x.days(1));
        o.due(68, x -> x.notice(1), "for today");
        Office same = owing(1, 3);
        same.terms(CURE, 60, "7");
        same.due(67, x -> x.notice(0), "made today for today");
    }

    private static void p27_laterTermsChangeNoNotice() {
        Office o = owing(1, 3);
        o.due(63, x -> x.notice(0), "its last day");
        o.terms(CURE, 0, "100");
        o.told(63, x -> x.ofNotice(0, 1), "its last day");
        o.ask(x -> x.days(4));
        o.told(LAPSED, x -> x.ofNotice(0, 2), "by its own days");
    }

    private static void p27_namesOfToday() {
        Office o = owing(3, -1);
        o.ask(x -> x.close(2));
        o.terms(CURE, 0, "m*1000+y*100+s*10+t+f");
        o.due(60 + 2000 + 20, x -> x.notice(0), "month 2, two open shops");
        o.until(359);
        o.due(359 + 11000 + 20, x -> x.notice(1), "month 11, no whole year");
        Office p = owing(1, -1);
        p.terms(CURE, 0, "m*1000+y*100+s*10+t+f");
        p.until(360);
        p.due(360 + 12000 + 100 + 10, x -> x.notice(0), "month 12, a whole year");
    }

    private static void p27_fundOwedAlone() {
        Office o = new Office(checks, 1);
        o.open(0, 150);
        o.terms(FUND, 0, "1");
        o.ask(x -> x.days(30));
        o.ask(x -> x.month(0, 0, 0, 0, 0));
        o.due(30, x -> x.notice(0), "a coin of the fund is owed");
    }

    // Promise 28: "Of the latest NOTICE of a SHOP: 0 the DAY, 1 its last DAY, 2 state (0 running, 1 CURED, 2 LAPSED, 3 the SHOP was
    // closed by a call), 3 the DAY of that (-1). NONE: none."

    private static void p28_none() {
        Office o = owing(2, 3);
        for (int i = 0; i <= 3; i++) {
            int what = i;
            o.told(NONE, x -> x.ofNotice(0, what), "none yet, what " + i);
        }
        o.ask(x -> x.notice(0));
        o.told(NONE, x -> x.ofNotice(1, 0), "none of the other");
        o.told(NONE, x -> x.ofNotice(1, 2), "none of the other");
        o.ask(x -> x.close(1));
        o.told(NONE, x -> x.ofNotice(1, 2), "closed without one");
    }

    private static void p28_shopsThatAre() {
        Office o = owing(1, 3);
        o.ask(x -> x.notice(0));
        o.told(NONE, x -> x.ofNotice(1, 0), "a shop that is not yet");
        for (int v : FAR_OUT) o.told(NONE, x -> x.ofNotice(v, 0), "shop " + v);
    }

    private static void p28_whatFrom0To3() {
        Office o = owing(1, 3);
        o.ask(x -> x.notice(0));
        of(o, 0, 60, 63, RUNNING, -1, "that is running");
        o.told(NONE, x -> x.ofNotice(0, -1), "what -1");
        o.told(NONE, x -> x.ofNotice(0, 4), "what 4");
        for (int v : FAR_OUT) o.told(NONE, x -> x.ofNotice(0, v), "what " + v);
    }

    private static void p28_cured() {
        Office o = owing(1, 3);
        o.ask(x -> x.notice(0));
        o.ask(x -> x.days(1));
        o.ask(x -> x.pay(0, 9));
        of(o, 0, 60, 63, RUNNING, -1, "with a coin owed");
        o.ask(x -> x.days(1));
        o.ask(x -> x.pay(0, 1));
        of(o, 0, 60, 63, CURED, 62, "with none owed, at once");
        o.ask(x -> x.pay(0, 1));
        o.ask(x -> x.days(5));
        of(o, 0, 60, 63, CURED, 62, "that was cured");
        o.told(-1, x -> x.ofShop(0, 4), "the shop is open");
        o.ask(x -> x.close(0));
        of(o, 0, 60, 63, CURED, 62, "that was cured ahead of the closing");
    }

    private static void p28_curedOnTheSameDay() {
        Office o = owing(1, 0);
        o.ask(x -> x.notice(0));
        o.ask(x -> x.pay(0, 11));
        of(o, 0, 60, 60, CURED, 60, "cured at once, by more than was owed");
    }

    private static void p28_curedOnItsLastDay() {
        Office o = owing(2, 3);
        o.ask(x -> x.notice(0));
        o.ask(x -> x.notice(1));
        o.ask(x -> x.days(3));
        o.ask(x -> x.pay(0, 10));
        of(o, 0, 60, 63, CURED, 63, "on its last day");
        of(o, 1, 60, 63, RUNNING, -1, "on its last day");
        o.ask(x -> x.days(1));
        of(o, 0, 60, 63, CURED, 63, "the day behind");
        of(o, 1, 60, 63, LAPSED, 64, "the day behind");
    }

    private static void p28_whatIsDueLaterCounts() {
        Office o = owing(1, 3);
        o.ask(x -> x.notice(0));
        o.ask(x -> x.month(0, 1, 0, 0, 0));
        o.ask(x -> x.pay(0, 10));
        of(o, 0, 60, 63, RUNNING, -1, "with a later month owed");
        o.ask(x -> x.pay(0, 10));
        of(o, 0, 60, 63, CURED, 60, "without OWED");
    }

    private static void p28_lapsedOnTheFirstDayBehind() {
        Office o = owing(2, 3);
        o.ask(x -> x.notice(0));
        o.ask(x -> x.days(3));
        of(o, 0, 60, 63, RUNNING, -1, "on its last day");
        o.told(2, x -> x.count(2), "open ones");
        o.ask(x -> x.days(1));
        of(o, 0, 60, 63, LAPSED, 64, "the day behind");
        o.told(64, x -> x.ofShop(0, 4), "closed that day");
        o.told(-1, x -> x.ofShop(1, 4), "the other is open");
        o.told(1, x -> x.count(2), "open ones");
        o.ask(x -> x.days(100));
        of(o, 0, 60, 63, LAPSED, 64, "later on");
        o.told(64, x -> x.ofShop(0, 4), "closed that day");
    }

    private static void p28_lapsedInTheMidstOfManyDays() {
        Office o = owing(1, 3);
        o.ask(x -> x.notice(0));
        o.ask(x -> x.days(360));
        of(o, 0, 60, 63, LAPSED, 64, "by one call of many days");
        o.told(64, x -> x.ofShop(0, 4), "closed that day");
    }

    private static void p28_lapsedIsNotCuredLater() {
        Office o = owing(1, 3);
        o.ask(x -> x.notice(0));
        o.ask(x -> x.days(4));
        o.due(0, x -> x.pay(0, 10), "all is paid");
        of(o, 0, 60, 63, LAPSED, 64, "though all is paid");
        o.told(64, x -> x.ofShop(0, 4), "closed");
    }

    private static void p28_closedByACall() {
        Office o = owing(2, 3);
        o.ask(x -> x.notice(0));
        o.ask(x -> x.notice(1));
        o.ask(x -> x.days(2));
        o.ask(x -> x.close(0));
        of(o, 0, 60, 63, SHUT, 62, "of a shop closed by a call");
        of(o, 1, 60, 63, RUNNING, -1, "of the other");
        o.ask(x -> x.pay(0, 10));
        o.ask(x -> x.days(9));
        of(o, 0, 60, 63, SHUT, 62, "later on");
        o.told(62, x -> x.ofShop(0, 4), "closed that day");
    }

    private static void p28_closedByACallOnDay0IsNoNotice() {
        Office o = new Office(checks, 1);
        o.open(0, 150);
        o.ask(x -> x.close(0));
        o.told(NONE, x -> x.ofNotice(0, 2), "none");
        o.told(NONE, x -> x.ofNotice(0, 3), "none");
    }

    private static void p28_theLatest() {
        Office o = owing(1, 3);
        o.ask(x -> x.notice(0));
        o.ask(x -> x.pay(0, 10));
        o.ask(x -> x.days(5));
        of(o, 0, 60, 63, CURED, 60, "the first");
        o.ask(x -> x.month(0, 1, 0, 0, 0));
        o.ask(x -> x.notice(0));
        of(o, 0, 65, 68, RUNNING, -1, "the second");
        o.ask(x -> x.days(4));
        of(o, 0, 65, 68, LAPSED, 69, "the second");
    }

    private static void p28_upToTheLastDay() {
        Office o = owing(2, 3);
        o.until(9996);
        o.due(9999, x -> x.notice(0), "its last day is the last of all");
        o.until(9999);
        of(o, 0, 9996, 9999, RUNNING, -1, "on the last day of all");
        o.due(10002, x -> x.notice(1), "its last day is beyond");
        of(o, 1, 9999, 10002, RUNNING, -1, "with a last day beyond");
        Office p = owing(1, 3);
        p.until(9995);
        p.ask(x -> x.notice(0));
        p.until(9999);
        of(p, 0, 9995, 9998, LAPSED, 9999, "lapsed on the last day of all");
    }
}
