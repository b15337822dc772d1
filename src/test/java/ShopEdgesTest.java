/** Promises 7 to 13: a test for each sentence that names an edge. */
public final class ShopEdgesTest {
    private static final int NONE = -1, FULL = -2, STATE = -3, NOT = -4;
    private static final int[] FAR_OUT = {Integer.MIN_VALUE, -1000000, -1, Integer.MAX_VALUE};
    private static final Checks checks = new Checks();

    public static void main(String[] args) throws ReflectiveOperationException {
        checks.runSentences(ShopEdgesTest.class);
        checks.end();
    }

    private static Office office(int... doors) {
        return new Office(checks, doors);
    }

    // Promise 7: "A SHOP is opened TODAY: its number. who: 100 times the OWNER, and the LIKE. NONE; STATE: an open one is there,
    // or it is in the LAND of another OWNER's; FULL." OWNERS 0 .. 14, SHOPS 0 .. 39, LIKE 1 .. 99.

    private static void p7_placesThatAre() {
        Office o = office(1, 1);
        o.refused(NONE, x -> x.open(2, 150), "a place that is not yet");
        for (int v : FAR_OUT) o.refused(NONE, x -> x.open(v, 150), "place " + v);
        o.due(0, x -> x.open(1, 150), "the last place");
        o.due(1, x -> x.open(0, 150), "the first place");
        o.told(1, x -> x.ofShop(0, 0), "its PLACE");
        o.told(0, x -> x.ofShop(1, 0), "its PLACE");
    }

    private static void p7_place29() {
        Office o = office();
        o.row(30, 1);
        o.refused(NONE, x -> x.open(30, 150), "place 30");
        o.due(0, x -> x.open(29, 150), "place 29");
        o.told(29, x -> x.ofShop(0, 0), "its PLACE");
    }

    private static void p7_likeFrom1To99() {
        Office o = office(1, 1, 1, 1);
        o.refused(NONE, x -> x.open(0, 300), "LIKE 0");
        o.due(0, x -> x.open(0, 301), "LIKE 1");
        o.due(1, x -> x.open(1, 399), "LIKE 99");
        o.refused(NONE, x -> x.open(2, 400), "LIKE 0 of the next owner");
        o.told(1, x -> x.ofShop(0, 2), "its LIKE");
        o.told(3, x -> x.ofShop(0, 1), "its OWNER");
        o.told(99, x -> x.ofShop(1, 2), "its LIKE");
        o.told(3, x -> x.ofShop(1, 1), "its OWNER");
    }

    private static void p7_ownerFrom0() {
        Office o = office(1, 1);
        o.refused(NONE, x -> x.open(0, 0), "OWNER 0, LIKE 0");
        o.refused(NONE, x -> x.open(0, -1), "who -1");
        o.refused(NONE, x -> x.open(0, -50), "who -50");
        o.refused(NONE, x -> x.open(0, -99), "who -99");
        o.refused(NONE, x -> x.open(0, -150), "who -150");
        for (int v : FAR_OUT) o.refused(NONE, x -> x.open(0, v), "who " + v);
        o.due(0, x -> x.open(0, 1), "OWNER 0, LIKE 1");
        o.told(0, x -> x.ofShop(0, 1), "its OWNER");
        o.due(1, x -> x.open(1, 99), "OWNER 0, LIKE 99");
        o.told(0, x -> x.ofShop(1, 1), "its OWNER");
        o.told(99, x -> x.ofShop(1, 2), "its LIKE");
    }

    private static void p7_ownerTo14() {
        Office o = office(1, 1, 1);
        o.refused(NONE, x -> x.open(0, 1500), "OWNER 15, LIKE 0");
        o.refused(NONE, x -> x.open(0, 1501), "OWNER 15, LIKE 1");
        o.refused(NONE, x -> x.open(0, 1599), "OWNER 15, LIKE 99");
        o.refused(NONE, x -> x.open(0, 1400), "OWNER 14, LIKE 0");
        o.due(0, x -> x.open(0, 1499), "OWNER 14, LIKE 99");
        o.told(14, x -> x.ofShop(0, 1), "its OWNER");
        o.due(1, x -> x.open(1, 1401), "OWNER 14, LIKE 1");
        o.told(14, x -> x.ofShop(1, 1), "its OWNER");
    }

    private static void p7_numbersAsTheyWereOpened() {
        Office o = office(1, 1, 1);
        o.due(0, x -> x.open(2, 150), "the first");
        o.due(1, x -> x.open(0, 150), "the second");
        o.due(1, x -> x.close(1), "closed");
        o.due(2, x -> x.open(0, 250), "a closed one keeps its number");
        o.told(3, x -> x.count(1), "SHOPS");
    }

    private static void p7_openedToday() {
        Office o = office(1, 1);
        o.due(0, x -> x.open(0, 150), "on day 0");
        o.until(9999);
        o.due(1, x -> x.open(1, 150), "on the last day");
        o.told(0, x -> x.ofShop(0, 3), "day 0");
        o.told(9999, x -> x.ofShop(1, 3), "day 9999");
    }

    private static void p7_oneOpenShopEach() {
        Office o = office(1, 1);
        o.open(0, 150);
        o.refused(STATE, x -> x.open(0, 150), "an open one is there");
        o.refused(STATE, x -> x.open(0, 250), "an open one is there");
        o.due(1, x -> x.open(1, 250), "not there");
        o.due(1, x -> x.close(0), "closed");
        o.due(2, x -> x.open(0, 250), "where one was closed");
        o.refused(STATE, x -> x.open(0, 150), "the newer one is there");
    }

    private static void p7_landOfAnotherOwners() {
        Office o = office();
        o.row(5, 2);
        o.open(0, 150);
        o.ask(x -> x.reach(0, 4));
        o.refused(STATE, x -> x.open(1, 250), "within it");
        o.refused(STATE, x -> x.open(2, 250), "WAY as great as the REACH");
        o.refused(STATE, x -> x.open(2, 50), "OWNER 0");
        o.due(1, x -> x.open(3, 250), "WAY above the REACH");
        o.due(2, x -> x.open(2, 150), "in its own OWNER's");
    }

    private static void p7_landIsThatOfTheNearest() {
        Office o = office();
        o.row(6, 2);
        o.open(0, 150);
        o.open(5, 250);
        o.ask(x -> x.reach(0, 20));
        o.ask(x -> x.reach(1, 20));
        o.refused(STATE, x -> x.open(3, 150), "nearer to the other's, though within its own, too");
        o.due(2, x -> x.open(3, 250), "nearer to its own, though within the other's, too");
        o.refused(STATE, x -> x.open(2, 250), "nearer to the other's");
        o.due(3, x -> x.open(2, 150), "nearer to its own");
    }

    private static void p7_noLandBarsNobody() {
        Office o = office();
        o.row(3, 2);
        o.open(0, 150);
        o.due(1, x -> x.open(1, 250), "no REACH told");
        o.due(1, x -> x.close(1), "closed");
        o.ask(x -> x.reach(0, 9));
        o.refused(STATE, x -> x.open(1, 250), "a REACH told");
        o.ask(x -> x.reach(0, 0));
        o.due(2, x -> x.open(1, 250), "REACH 0 again");
        o.ask(x -> x.reach(0, 9));
        o.refused(STATE, x -> x.open(2, 350), "a REACH told");
        o.due(1, x -> x.close(0), "closed");
        o.due(3, x -> x.open(2, 350), "the land of a closed one");
    }

    private static void p7_fullAt40() {
        Office o = office(1, 1);
        o.openAndClose(39, 0);
        o.due(39, x -> x.open(1, 150), "the 40th");
        o.refused(FULL, x -> x.open(0, 150), "the 41st, though but one is open");
        o.told(40, x -> x.count(1), "SHOPS");
        o.told(1, x -> x.count(2), "open ones");
    }

    private static void p7_noneAheadOfState() {
        Office o = office(1, 1);
        o.ask(x -> x.street(0, 1, 1));
        o.open(0, 150);
        o.ask(x -> x.reach(0, 9));
        o.refused(NONE, x -> x.open(0, 100), "LIKE 0 where an open one is");
        o.refused(NONE, x -> x.open(1, 1500), "OWNER 15 in the land of another");
    }

    private static void p7_noneAheadOfFull() {
        Office o = office(1, 1);
        o.openAndClose(40, 0);
        o.refused(NONE, x -> x.open(2, 150), "no such place when full");
        o.refused(NONE, x -> x.open(0, 100), "LIKE 0 when full");
        o.refused(FULL, x -> x.open(0, 101), "full");
    }

    private static void p7_stateAheadOfFull() {
        Office o = office(1, 1, 1);
        o.ask(x -> x.street(0, 1, 1));
        o.openAndClose(39, 2);
        o.open(0, 150);
        o.ask(x -> x.reach(39, 5));
        o.refused(STATE, x -> x.open(0, 150), "an open one is there when full");
        o.refused(STATE, x -> x.open(1, 250), "in the land of another when full");
        o.refused(FULL, x -> x.open(1, 150), "in its own land when full");
        o.refused(FULL, x -> x.open(2, 250), "in no land when full");
    }

    // Promise 8: "A SHOP is closed TODAY: 1. NONE; STATE: it is."

    private static void p8_shopsThatAre() {
        Office o = office(1, 1);
        o.open(0, 150);
        o.refused(NONE, x -> x.close(1), "a shop that is not yet");
        for (int v : FAR_OUT) o.refused(NONE, x -> x.close(v), "shop " + v);
        o.due(1, x -> x.close(0), "the first and last");
    }

    private static void p8_shop39() {
        Office o = office(1);
        o.openAndClose(39, 0);
        o.open(0, 150);
        o.refused(NONE, x -> x.close(40), "shop 40");
        o.due(1, x -> x.close(39), "shop 39");
    }

    private static void p8_stateIfItIs() {
        Office o = office(1);
        o.open(0, 150);
        o.due(1, x -> x.close(0), "closed on the day when it was opened");
        o.refused(STATE, x -> x.close(0), "it is");
        o.ask(x -> x.days(5));
        o.refused(STATE, x -> x.close(0), "it is, days later");
        o.told(0, x -> x.ofShop(0, 4), "day 0");
    }

    private static void p8_stateIfItLapsed() {
        Office o = office(1);
        o.open(0, 150);
        o.terms(0, 0, "1");
        o.ask(x -> x.days(30));
        o.ask(x -> x.month(0, 0, 0, 0, 0));
        o.ask(x -> x.notice(0));
        o.ask(x -> x.days(1));
        o.refused(STATE, x -> x.close(0), "it lapsed");
        o.told(31, x -> x.ofShop(0, 4), "the day when it was closed");
    }

    private static void p8_closedToday() {
        Office o = office(7, 1);
        o.open(0, 150);
        o.open(1, 150);
        o.ask(x -> x.reach(0, 5));
        o.ask(x -> x.days(11));
        o.due(1, x -> x.close(0), "closed");
        o.told(11, x -> x.ofShop(0, 4), "TODAY");
        o.told(NONE, x -> x.ofShop(1, 4), "the other one");
        o.told(1, x -> x.count(2), "open ones");
        o.told(NOT, x -> x.whose(0), "its land counts to that day");
        o.told(STATE, x -> x.foretold(0), "foretold");
    }

    // Promise 9: "REACH of an open SHOP becomes v: what it was. NONE, STATE." REACH 0 .. 999; 0 at first.

    private static void p9_reachFrom0To999() {
        Office o = office(1);
        o.open(0, 150);
        o.refused(NONE, x -> x.reach(0, -1), "REACH -1");
        o.refused(NONE, x -> x.reach(0, 1000), "REACH 1000");
        for (int v : FAR_OUT) o.refused(NONE, x -> x.reach(0, v), "REACH " + v);
        o.due(0, x -> x.reach(0, 999), "0 at first");
        o.due(999, x -> x.reach(0, 1), "it was 999");
        o.due(1, x -> x.reach(0, 0), "it was 1");
        o.due(0, x -> x.reach(0, 0), "it was 0");
    }

    private static void p9_shopsThatAre() {
        Office o = office(1, 1);
        o.open(0, 150);
        o.refused(NONE, x -> x.reach(1, 5), "a shop that is not yet");
        for (int v : FAR_OUT) o.refused(NONE, x -> x.reach(v, 5), "shop " + v);
    }

    private static void p9_eachShopItsOwn() {
        Office o = office(1, 1);
        o.open(0, 150);
        o.open(1, 150);
        o.due(0, x -> x.reach(1, 7), "0 at first");
        o.due(0, x -> x.reach(0, 8), "0 at first");
        o.told(7, x -> x.ofShop(1, 5), "REACH");
        o.told(8, x -> x.ofShop(0, 5), "REACH");
    }

    private static void p9_stateIfClosed() {
        Office o = office(1);
        o.open(0, 150);
        o.ask(x -> x.close(0));
        o.refused(STATE, x -> x.reach(0, 0), "closed");
        o.refused(STATE, x -> x.reach(0, 999), "closed");
        o.refused(NONE, x -> x.reach(0, 1000), "NONE is named ahead of STATE");
        o.refused(NONE, x -> x.reach(0, -1), "NONE is named ahead of STATE");
    }

    // Promise 10: "The SHOP whose LAND a PLACE is in; NOT: none. NONE."

    private static void p10_placesThatAre() {
        Office o = office(1, 1);
        o.open(1, 150);
        o.ask(x -> x.reach(0, 5));
        o.told(NONE, x -> x.whose(2), "a place that is not yet");
        for (int v : FAR_OUT) o.told(NONE, x -> x.whose(v), "place " + v);
        o.told(0, x -> x.whose(1), "the last place");
        o.told(NOT, x -> x.whose(0), "the first place");
    }

    private static void p10_notWithoutAny() {
        Office o = office(1, 1);
        o.told(NOT, x -> x.whose(0), "no shops");
        o.open(0, 150);
        o.told(NOT, x -> x.whose(0), "no REACH told");
        o.ask(x -> x.reach(0, 1));
        o.told(0, x -> x.whose(0), "its own place");
        o.told(NOT, x -> x.whose(1), "no WAY");
        o.ask(x -> x.reach(0, 0));
        o.told(NOT, x -> x.whose(0), "REACH 0");
    }

    private static void p10_wayIsReachAtMost() {
        Office o = office();
        o.row(3, 7);
        o.open(0, 150);
        int[] reaches = {6, 7, 13, 14};
        int[] ends = {0, 1, 1, 2};
        for (int i = 0; i < reaches.length; i++) {
            int v = reaches[i];
            o.ask(x -> x.reach(0, v));
            for (int p = 0; p < 3; p++) {
                int place = p;
                o.told(p <= ends[i] ? 0 : NOT, x -> x.whose(place), "place " + p + " with REACH " + v);
            }
        }
    }

    private static void p10_wayOf999() {
        Office o = office();
        o.row(11, 99);
        o.places(0, 0);
        o.ask(x -> x.street(10, 11, 9));
        o.ask(x -> x.street(10, 12, 10));
        o.open(0, 150);
        o.ask(x -> x.reach(0, 998));
        o.told(NOT, x -> x.whose(11), "WAY 999, REACH 998");
        o.ask(x -> x.reach(0, 999));
        o.told(0, x -> x.whose(11), "WAY 999, REACH 999");
        o.told(NOT, x -> x.whose(12), "WAY 1000");
    }

    private static void p10_nearest() {
        Office o = office();
        o.row(5, 2);
        o.open(4, 250);
        o.open(0, 150);
        o.ask(x -> x.reach(0, 99));
        o.ask(x -> x.reach(1, 99));
        int[] want = {1, 1, 0, 0, 0};
        for (int p = 0; p < 5; p++) {
            int place = p;
            o.told(want[p], x -> x.whose(place), "place " + p);
        }
    }

    private static void p10_ofLikeWaysTheLesserShop() {
        Office o = office();
        o.row(3, 5);
        o.open(2, 250);
        o.open(0, 150);
        o.ask(x -> x.reach(1, 50));
        o.told(1, x -> x.whose(1), "the one that has it");
        o.ask(x -> x.reach(0, 5));
        o.told(0, x -> x.whose(1), "the lesser shop, though its REACH is less and was told later");
        o.ask(x -> x.reach(0, 4));
        o.told(1, x -> x.whose(1), "beyond the REACH of the lesser one");
    }

    private static void p10_nearerOneMustHaveItWithinItsOwn() {
        Office o = office();
        o.row(4, 5);
        o.open(2, 250);
        o.open(0, 150);
        o.ask(x -> x.reach(1, 15));
        o.told(1, x -> x.whose(3), "the nearer one has no REACH");
        o.ask(x -> x.reach(0, 4));
        o.told(1, x -> x.whose(3), "the nearer one does not reach that far");
        o.told(0, x -> x.whose(2), "its own place");
        o.ask(x -> x.reach(0, 5));
        o.told(0, x -> x.whose(3), "the nearer one does");
    }

    private static void p10_closedOneHasNone() {
        Office o = office();
        o.row(3, 5);
        o.open(0, 150);
        o.open(2, 250);
        o.ask(x -> x.reach(0, 10));
        o.ask(x -> x.reach(1, 10));
        o.told(0, x -> x.whose(1), "of like ways the lesser");
        o.ask(x -> x.close(0));
        o.told(1, x -> x.whose(1), "the other one's then");
        o.told(1, x -> x.whose(0), "the other one's then");
        o.ask(x -> x.close(1));
        o.told(NOT, x -> x.whose(1), "nobody's");
    }

    private static void p10_lapsedOneHasNone() {
        Office o = office(1);
        o.open(0, 150);
        o.ask(x -> x.reach(0, 10));
        o.terms(0, 0, "1");
        o.ask(x -> x.days(30));
        o.ask(x -> x.month(0, 0, 0, 0, 0));
        o.ask(x -> x.notice(0));
        o.told(0, x -> x.whose(0), "running");
        o.ask(x -> x.days(1));
        o.told(NOT, x -> x.whose(0), "lapsed");
    }

    // Promise 11: "Of a SHOP: 0 PLACE, 1 OWNER, 2 LIKE, 3 the DAY, 4 the DAY when it was closed (-1), 5 REACH, 6 PLACES in its LAND,
    // 7 SHARE in all. NONE."

    private static void p11_whatFrom0To7() {
        Office o = office(1, 1);
        o.ask(x -> x.days(8));
        o.open(1, 345);
        int[] want = {1, 3, 45, 8, -1, 0, 0, 0};
        for (int i = 0; i < want.length; i++) {
            int what = i;
            o.told(want[i], x -> x.ofShop(0, what), "what " + i);
        }
        o.told(NONE, x -> x.ofShop(0, -1), "what -1");
        o.told(NONE, x -> x.ofShop(0, 8), "what 8");
        for (int v : FAR_OUT) o.told(NONE, x -> x.ofShop(0, v), "what " + v);
    }

    private static void p11_shopsThatAre() {
        Office o = office(1, 1);
        o.open(0, 150);
        for (int i = 0; i <= 7; i++) {
            int what = i;
            o.told(NONE, x -> x.ofShop(1, what), "a shop that is not yet, what " + i);
            o.told(NONE, x -> x.ofShop(-1, what), "shop -1, what " + i);
        }
        for (int v : FAR_OUT) o.told(NONE, x -> x.ofShop(v, 0), "shop " + v);
    }

    private static void p11_shop39() {
        Office o = office(1, 1);
        o.openAndClose(39, 0);
        o.told(NONE, x -> x.ofShop(39, 0), "not yet");
        o.open(1, 777);
        o.told(1, x -> x.ofShop(39, 0), "PLACE");
        o.told(7, x -> x.ofShop(39, 1), "OWNER");
        o.told(NONE, x -> x.ofShop(40, 0), "shop 40");
    }

    private static void p11_dayWhenItWasClosed() {
        Office o = office(1, 1);
        o.open(0, 150);
        o.open(1, 150);
        o.told(-1, x -> x.ofShop(0, 4), "open");
        o.ask(x -> x.close(0));
        o.told(0, x -> x.ofShop(0, 4), "day 0");
        o.ask(x -> x.days(9));
        o.told(0, x -> x.ofShop(0, 4), "stays");
        o.told(-1, x -> x.ofShop(1, 4), "the other is open");
    }

    private static void p11_placesInItsLand() {
        Office o = office();
        o.row(6, 3);
        o.open(0, 150);
        o.open(5, 250);
        o.told(0, x -> x.ofShop(0, 6), "no REACH");
        o.ask(x -> x.reach(0, 2));
        o.told(1, x -> x.ofShop(0, 6), "its own place alone");
        o.ask(x -> x.reach(0, 999));
        o.told(6, x -> x.ofShop(0, 6), "all");
        o.told(0, x -> x.ofShop(1, 6), "none");
        o.ask(x -> x.reach(1, 999));
        o.told(3, x -> x.ofShop(0, 6), "parted");
        o.told(3, x -> x.ofShop(1, 6), "parted");
        o.ask(x -> x.close(0));
        o.told(0, x -> x.ofShop(0, 6), "closed");
        o.told(6, x -> x.ofShop(1, 6), "all");
    }

    private static void p11_share() {
        Office o = office(1, 1);
        o.open(0, 150);
        o.open(1, 150);
        o.terms(1, 0, "9");
        o.ask(x -> x.days(30));
        o.ask(x -> x.month(0, 0, 0, 0, 0));
        o.ask(x -> x.pay(0, 9));
        o.told(0, x -> x.ofShop(1, 7), "0 at first");
        for (int sum = 1; sum <= 3; sum++) {
            int coins = sum;
            o.ask(x -> x.gain(1, 999));
            o.ask(x -> x.spend(coins));
            o.told(sum * (sum + 1) / 2, x -> x.ofShop(1, 7), "kept as a sum");
        }
        o.told(0, x -> x.ofShop(0, 7), "the other one's");
        o.ask(x -> x.close(1));
        o.told(6, x -> x.ofShop(1, 7), "of a closed one, too");
    }

    // Promise 12: "FORETOLD of an open SHOP. NONE, STATE."

    private static void p12_shopsThatAre() {
        Office o = office(7);
        o.told(NONE, x -> x.foretold(0), "no shops");
        o.open(0, 150);
        o.told(NONE, x -> x.foretold(1), "a shop that is not yet");
        for (int v : FAR_OUT) o.told(NONE, x -> x.foretold(v), "shop " + v);
        o.told(70, x -> x.foretold(0), "the first");
    }

    private static void p12_stateIfClosed() {
        Office o = office(7);
        o.open(0, 150);
        o.ask(x -> x.close(0));
        o.told(STATE, x -> x.foretold(0), "closed");
        o.told(NONE, x -> x.foretold(1), "no such shop");
    }

    private static void p12_pullIsCutOff() {
        // LIKE 2 at WAY 2 pulls 666 (2000 / 3), LIKE 1 at WAY 0 pulls 1000: 10000 * 666 / 1666 = 3997.6, 10000 * 1000 / 1666 = 6002.4.
        Office o = office(999, 0);
        o.ask(x -> x.rule(0, 10));
        o.ask(x -> x.street(0, 1, 2));
        o.open(1, 102);
        o.told(9990, x -> x.foretold(0), "alone");
        o.open(0, 201);
        o.told(9990 * 666 / 1666, x -> x.foretold(0), "the rest of its pull is away");
        o.told(9990 * 1000 / 1666, x -> x.foretold(1), "the whole pull");
    }

    private static void p12_eachPartIsCutOff() {
        // Three places, of each two like shops have a half of 1 * 99, 49.5; the halves that are away are not summed.
        Office o = office(1, 1, 1, 0, 0);
        o.ask(x -> x.rule(0, 99));
        for (int p = 0; p < 3; p++) {
            int place = p;
            o.ask(x -> x.street(place, 3, 1));
            o.ask(x -> x.street(place, 4, 1));
        }
        o.open(3, 150);
        o.open(4, 250);
        o.told(3 * 49, x -> x.foretold(0), "three parts of 49.5");
        o.told(3 * 49, x -> x.foretold(1), "three parts of 49.5");
    }

    private static void p12_fromWhichSomeCanBeReached() {
        Office o = office(10, 20, 40);
        o.open(0, 150);
        o.told(100, x -> x.foretold(0), "its own place alone");
        o.ask(x -> x.street(0, 1, 99));
        o.told(300, x -> x.foretold(0), "two places");
        o.open(2, 299);
        o.told(300, x -> x.foretold(0), "a shop that cannot be reached takes nothing");
        o.told(400, x -> x.foretold(1), "the other part of the town");
    }

    private static void p12_allPulls0() {
        Office o = office();
        o.row(11, 99);
        o.places(50, 60);
        o.ask(x -> x.street(10, 11, 9));
        o.ask(x -> x.street(10, 12, 10));
        o.open(0, 101);
        o.told(500, x -> x.foretold(0), "a PULL of 1 (WAY 999) has all of 50 doors; one of 0 (WAY 1000) has none of 60");
        o.open(1, 101);
        // The nearer shop pulls 1000 / 901 = 1 and 1000 / 902 = 1.
        o.told(250, x -> x.foretold(0), "a PULL of 1 and one of 1");
        o.told(250 + 600, x -> x.foretold(1), "a PULL of 1 and one of 0");
    }

    private static void p12_noDoors() {
        Office o = office(0);
        o.open(0, 199);
        o.told(0, x -> x.foretold(0), "DOORS 0");
    }

    private static void p12_greatest() {
        Office o = office();
        for (int i = 0; i < 30; i++) {
            int place = i;
            o.places(999);
            if (i > 0) o.ask(x -> x.street(0, place, 1));
        }
        o.ask(x -> x.rule(0, 99));
        o.open(0, 199);
        o.told(30 * 999 * 99, x -> x.foretold(0), "all doors of the greatest town");
        o.open(1, 299);
        // Place 0: pulls 99000 and 49500; place 1: 49500 and 99000; the others: 49500 and 33000.
        int money = 999 * 99;
        o.told(money * 2 / 3 + money / 3 + 28 * (int) (money * 49500L / 82500), x -> x.foretold(0), "parted in the greatest town");
        o.told(money / 3 + money * 2 / 3 + 28 * (int) (money * 33000L / 82500), x -> x.foretold(1), "parted in the greatest town");
    }

    private static void p12_openOnesAlone() {
        Office o = office(100, 0);
        o.ask(x -> x.street(0, 1, 1));
        o.open(0, 110);
        o.open(1, 220);
        o.told(500, x -> x.foretold(0), "pulls 10000 and 10000");
        o.ask(x -> x.close(1));
        o.told(1000, x -> x.foretold(0), "the other one is closed");
        o.open(1, 160);
        o.told(250, x -> x.foretold(0), "pulls 10000 and 30000; an owner's own shops take from each other");
    }

    // Promise 13: "HARM of an open SHOP by a new one at a PLACE without an open one. NONE (LIKE 1 .. 99), STATE."

    private static void p13_likeFrom1To99() {
        Office o = office(100, 0);
        o.ask(x -> x.street(0, 1, 9));
        o.open(0, 109);
        o.told(NONE, x -> x.harm(0, 1, 0), "LIKE 0");
        o.told(NONE, x -> x.harm(0, 1, 100), "LIKE 100");
        for (int v : FAR_OUT) o.told(NONE, x -> x.harm(0, 1, v), "LIKE " + v);
        // 1000 * 9000 / 9100 = 989 with LIKE 1, 1000 * 9000 / 18900 = 476 with LIKE 99.
        o.told(11, x -> x.harm(0, 1, 1), "LIKE 1");
        o.told(524, x -> x.harm(0, 1, 99), "LIKE 99");
    }

    private static void p13_shopsAndPlacesThatAre() {
        Office o = office(100, 0);
        o.open(0, 150);
        o.told(NONE, x -> x.harm(1, 1, 10), "a shop that is not yet");
        o.told(NONE, x -> x.harm(0, 2, 10), "a place that is not yet");
        for (int v : FAR_OUT) {
            o.told(NONE, x -> x.harm(v, 1, 10), "shop " + v);
            o.told(NONE, x -> x.harm(0, v, 10), "place " + v);
        }
        o.told(0, x -> x.harm(0, 1, 10), "the last place");
    }

    private static void p13_stateIfClosed() {
        Office o = office(100, 0);
        o.ask(x -> x.street(0, 1, 1));
        o.open(0, 110);
        o.ask(x -> x.close(0));
        o.told(STATE, x -> x.harm(0, 1, 10), "closed");
        o.told(NONE, x -> x.harm(0, 1, 0), "NONE is named ahead of STATE");
        o.told(NONE, x -> x.harm(0, 2, 10), "NONE is named ahead of STATE");
    }

    private static void p13_placeWithoutAnOpenOne() {
        Office o = office(100, 100, 0);
        o.ask(x -> x.street(0, 1, 1));
        o.open(0, 110);
        o.open(1, 210);
        o.told(STATE, x -> x.harm(0, 0, 10), "its own place");
        o.told(STATE, x -> x.harm(0, 1, 10), "another's place");
        o.told(NONE, x -> x.harm(0, 1, 100), "NONE is named ahead of STATE");
        o.told(0, x -> x.harm(0, 2, 10), "a place without one");
        o.ask(x -> x.close(1));
        o.told(501, x -> x.harm(0, 1, 10), "where one was closed: 666 + 333 of 2000 is left");
    }

    private static void p13_up() {
        Office o = office(100, 0);
        o.ask(x -> x.street(0, 1, 1));
        o.open(0, 110);
        o.told(500, x -> x.harm(0, 1, 20), "a whole number of 1000ths: 500 of 1000");
        o.told(334, x -> x.harm(0, 1, 10), "1000 * 10000 / 15000 = 666: 334 of 1000");
        o.ask(x -> x.rule(0, 9));
        o.told(334, x -> x.harm(0, 1, 10), "600 of 900: 333.3, up");
        o.ask(x -> x.rule(0, 99));
        o.told(334, x -> x.harm(0, 1, 10), "6600 of 9900: 333.3, up");
        // 9900 * 10000 / 19500 = 5076 of 9900 is left: 4824 are lost, 487.3 of 1000.
        o.told(488, x -> x.harm(0, 1, 19), "487.3, up");
    }

    private static void p13_0IfItWas0() {
        Office o = office(0, 0, 9);
        o.ask(x -> x.street(0, 1, 1));
        o.open(0, 110);
        o.told(0, x -> x.foretold(0), "nothing is foretold");
        o.told(0, x -> x.harm(0, 1, 99), "0 of 0");
    }

    private static void p13_from0To1000() {
        Office o = office(1, 0);
        o.ask(x -> x.rule(0, 1));
        o.ask(x -> x.street(0, 1, 1));
        o.open(0, 110);
        o.told(1000, x -> x.harm(0, 1, 1), "the only coin is lost");
        Office far = office(5, 5);
        far.open(0, 110);
        far.told(0, x -> x.harm(0, 1, 99), "a new one that nobody can reach");
    }

    private static void p13_landsBarNot() {
        Office o = office(100, 0);
        o.ask(x -> x.street(0, 1, 1));
        o.open(0, 110);
        o.ask(x -> x.reach(0, 9));
        o.told(500, x -> x.harm(0, 1, 20), "in the land of the shop itself");
    }

    private static void p13_whenFull() {
        Office o = office(100, 0);
        o.ask(x -> x.street(0, 1, 1));
        o.openAndClose(39, 1);
        o.open(0, 110);
        o.told(500, x -> x.harm(39, 1, 20), "with 40 shops told");
    }
}
