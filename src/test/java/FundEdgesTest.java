/** Promises 29 to 34: a test for each sentence that names an edge. */
public final class FundEdgesTest {
    private static final int NONE = -1, FULL = -2, STATE = -3, NOT = -4;
    private static final int ROYALTY = 0, FUND = 1, CURE = 2;
    private static final int[] FAR_OUT = {Integer.MIN_VALUE, -1000000, -1, Integer.MAX_VALUE};
    private static final Checks checks = new Checks();

    public static void main(String[] args) throws ReflectiveOperationException {
        checks.runSentences(FundEdgesTest.class);
        checks.end();
    }

    private static Office shops(int count) {
        Office o = new Office(checks);
        for (int i = 0; i < count; i++) {
            o.places(1);
            o.open(i, 150);
        }
        return o;
    }

    /** Shops on day 30 with so many coins in the fund, all paid by shop 0. */
    private static Office funded(int shops, String coins) {
        Office o = shops(shops);
        o.terms(FUND, 0, coins);
        o.ask(x -> x.days(30));
        int due = o.ask(x -> x.month(0, 0, 0, 0, 0));
        o.due(0, x -> x.pay(0, due), "paid");
        o.told(due, x -> x.count(6), "coins in the fund");
        return o;
    }

    private static void gains(Office o, int... gains) {
        for (int i = 0; i < gains.length; i++) {
            int shop = i;
            int gain = gains[i];
            if (gain != 0) o.due(0, x -> x.gain(shop, gain), "gain was 0");
        }
    }

    private static void shares(Office o, int... want) {
        for (int i = 0; i < want.length; i++) {
            int shop = i;
            o.told(want[i], x -> x.ofShop(shop, 7), "SHARE of shop " + i);
        }
    }

    private static void loads(Office o, int... loads) {
        for (int i = 0; i < loads.length; i++) {
            int shop = i;
            int load = loads[i];
            if (load != 0) checks.holds(o.ask(x -> x.load(shop, load)) > 0, "load " + load + " of shop " + shop);
        }
    }

    private static void inCarts(Office o, int... want) {
        for (int i = 0; i < want.length; i++) {
            int shop = i;
            o.told(want[i], x -> x.cart(shop), "CART of shop " + i);
        }
    }

    // Promise 29: "GAIN of a SHOP for the next ADVERT: what it was. NONE." GAINS 0 .. 999.

    private static void p29_gainFrom0To999() {
        Office o = shops(1);
        o.refused(NONE, x -> x.gain(0, -1), "GAIN -1");
        o.refused(NONE, x -> x.gain(0, 1000), "GAIN 1000");
        for (int v : FAR_OUT) o.refused(NONE, x -> x.gain(0, v), "GAIN " + v);
        o.due(0, x -> x.gain(0, 999), "0 at first");
        o.due(999, x -> x.gain(0, 1), "it was 999");
        o.due(1, x -> x.gain(0, 0), "it was 1");
        o.due(0, x -> x.gain(0, 5), "it was 0");
        o.refused(NONE, x -> x.gain(0, 1000), "GAIN 1000");
        o.due(5, x -> x.gain(0, 5), "it was 5");
    }

    private static void p29_shopsThatAre() {
        Office o = shops(1);
        o.refused(NONE, x -> x.gain(1, 5), "a shop that is not yet");
        for (int v : FAR_OUT) o.refused(NONE, x -> x.gain(v, 5), "shop " + v);
    }

    private static void p29_closedOneMayGain() {
        Office o = funded(2, "10");
        o.ask(x -> x.close(1));
        o.due(0, x -> x.gain(1, 7), "of a closed one");
        o.due(0, x -> x.spend(10), "spent");
        shares(o, 0, 10);
    }

    private static void p29_eachShopItsOwn() {
        Office o = shops(3);
        o.due(0, x -> x.gain(2, 7), "0 at first");
        o.due(0, x -> x.gain(0, 8), "0 at first");
        o.due(7, x -> x.gain(2, 0), "its own");
        o.due(8, x -> x.gain(0, 0), "its own");
        o.due(0, x -> x.gain(1, 0), "its own");
    }

    // Promise 30: "A sum (1 .. 1000000) is SPENT, parted by GAINS, which are 0 then: what THE FUND has left. NONE; STATE: it has less,
    // or all GAINS are 0."

    private static void p30_sumFrom1To1000000() {
        Office o = funded(2, "999999+1");
        gains(o, 1, 1);
        o.refused(NONE, x -> x.spend(0), "sum 0");
        o.refused(NONE, x -> x.spend(1000001), "sum 1000001");
        for (int v : FAR_OUT) o.refused(NONE, x -> x.spend(v), "sum " + v);
        o.due(0, x -> x.spend(1000000), "sum 1000000");
        shares(o, 500000, 500000);
        Office p = funded(1, "2");
        gains(p, 1);
        p.due(1, x -> x.spend(1), "sum 1");
        shares(p, 1);
    }

    private static void p30_stateIfItHasLess() {
        Office o = funded(1, "9");
        gains(o, 1);
        o.refused(STATE, x -> x.spend(10), "one more than it has");
        o.refused(STATE, x -> x.spend(1000000), "far more than it has");
        o.due(0, x -> x.spend(9), "all that it has");
        gains(o, 1);
        o.refused(STATE, x -> x.spend(1), "it has nothing");
    }

    private static void p30_stateIfAllGainsAre0() {
        Office o = funded(2, "9");
        o.refused(STATE, x -> x.spend(5), "none told");
        gains(o, 0, 3);
        o.ask(x -> x.gain(1, 0));
        o.refused(STATE, x -> x.spend(5), "told as 0");
        gains(o, 0, 1);
        o.due(4, x -> x.spend(5), "one of them is 1");
    }

    private static void p30_noneAheadOfState() {
        Office o = shops(1);
        o.refused(NONE, x -> x.spend(0), "sum 0 with an empty fund");
        o.refused(NONE, x -> x.spend(1000001), "sum 1000001 with an empty fund");
        o.refused(STATE, x -> x.spend(1), "an empty fund");
    }

    private static void p30_fundCoinsPaidAlone() {
        Office o = shops(1);
        o.terms(ROYALTY, 0, "100");
        o.terms(FUND, 0, "10");
        o.ask(x -> x.days(30));
        gains(o, 1);
        o.due(110, x -> x.month(0, 0, 0, 0, 0), "due");
        o.refused(STATE, x -> x.spend(1), "nothing is paid");
        o.ask(x -> x.pay(0, 100));
        o.refused(STATE, x -> x.spend(1), "royalty is none of it");
        o.ask(x -> x.pay(0, 4));
        o.refused(STATE, x -> x.spend(5), "four are in it");
        o.due(0, x -> x.spend(4), "four are in it");
        o.ask(x -> x.pay(0, 100));
        o.told(6, x -> x.count(6), "credit is none of it");
    }

    private static void p30_gainsAre0Then() {
        Office o = funded(3, "9");
        gains(o, 5, 0, 7);
        o.due(8, x -> x.spend(1), "spent");
        o.refused(STATE, x -> x.spend(1), "all GAINS are 0");
        gains(o, 1, 1, 1);
    }

    private static void p30_wholeParts() {
        Office o = funded(3, "100");
        gains(o, 1, 2, 7);
        o.due(0, x -> x.spend(100), "no rest");
        shares(o, 10, 20, 70);
    }

    private static void p30_greatestRest() {
        Office o = funded(3, "100");
        gains(o, 1, 1, 4);
        // 10 by 6: 1 rest 4, 1 rest 4, 6 rest 4; two are left.
        o.due(90, x -> x.spend(10), "of like rests the lesser shops");
        shares(o, 2, 2, 6);
        gains(o, 2, 3, 2);
        // 5 by 7: 1 rest 3, 2 rest 1, 1 rest 3; one is left.
        o.due(85, x -> x.spend(5), "of like rests the lesser shop");
        shares(o, 4, 4, 7);
        gains(o, 1, 3, 3);
        // 4 by 7: 0 rest 4, 1 rest 5, 1 rest 5; two are left.
        o.due(81, x -> x.spend(4), "the greater rests");
        shares(o, 4, 6, 9);
        gains(o, 3, 1, 3);
        // 2 by 7: 0 rest 6, 0 rest 2, 0 rest 6; two are left.
        o.due(79, x -> x.spend(2), "the greater rests");
        shares(o, 5, 6, 10);
        gains(o, 1, 2, 3);
        // 1 by 6: rests 1, 2, 3.
        o.due(78, x -> x.spend(1), "the last has the greatest");
        shares(o, 5, 6, 11);
    }

    private static void p30_noneLeftForAGainOf0() {
        Office o = funded(4, "100");
        gains(o, 0, 1, 0, 1);
        o.due(93, x -> x.spend(7), "7 by 2");
        shares(o, 0, 4, 0, 3);
    }

    private static void p30_eachOfTheMostGetsOneOfTheRest() {
        Office o = funded(30, "39");
        for (int i = 20; i < 30; i++) {
            int shop = i;
            o.ask(x -> x.close(shop));
            o.open(i, 150);
        }
        for (int i = 0; i < 40; i++) {
            int shop = i;
            o.ask(x -> x.gain(shop, 999));
        }
        o.due(0, x -> x.spend(39), "39 by 40 like gains");
        for (int i = 0; i < 40; i++) {
            int shop = i;
            o.due(i < 39 ? 1 : 0, x -> x.ofShop(shop, 7), "SHARE of shop " + i);
        }
    }

    private static void p30_greatestSumAndGains() {
        Office o = funded(3, "999999+1");
        gains(o, 999, 999, 998);
        // 1000000 by 2996: 333444 rest 1776, 333444 rest 1776, 333110 rest 2440; two are left.
        o.due(0, x -> x.spend(1000000), "the greatest sum");
        shares(o, 333445, 333444, 333111);
    }

    private static void p30_sharesAreKeptAsASum() {
        Office o = funded(2, "100");
        for (int i = 1; i <= 3; i++) {
            gains(o, 1, 1);
            o.due(100 - 10 * i, x -> x.spend(10), "what is left");
            shares(o, 5 * i, 5 * i);
        }
    }

    // Promise 31: "A load of a SHOP comes to the list: how many there are. NONE (1 .. 99; also: that SHOP is on it); FULL: 10."

    private static void p31_loadFrom1To99() {
        Office o = shops(2);
        o.refused(NONE, x -> x.load(0, 0), "load 0");
        o.refused(NONE, x -> x.load(0, 100), "load 100");
        for (int v : FAR_OUT) o.refused(NONE, x -> x.load(0, v), "load " + v);
        o.due(1, x -> x.load(0, 1), "load 1");
        o.due(2, x -> x.load(1, 99), "load 99");
        o.due(2, x -> x.carts(99), "100 in all");
    }

    private static void p31_shopsThatAre() {
        Office o = shops(2);
        o.refused(NONE, x -> x.load(2, 5), "a shop that is not yet");
        for (int v : FAR_OUT) o.refused(NONE, x -> x.load(v, 5), "shop " + v);
        o.due(1, x -> x.load(1, 5), "the last shop");
        o.due(2, x -> x.load(0, 5), "the first shop");
    }

    private static void p31_shop39() {
        Office o = new Office(checks, 1);
        o.openAndClose(40, 0);
        o.refused(NONE, x -> x.load(40, 5), "shop 40");
        o.due(1, x -> x.load(39, 5), "shop 39, though it is closed");
        o.due(1, x -> x.carts(5), "carts");
        o.told(0, x -> x.cart(39), "its CART");
    }

    private static void p31_noneIfThatShopIsOnIt() {
        Office o = shops(3);
        loads(o, 5, 5);
        o.refused(NONE, x -> x.load(0, 5), "it is on it");
        o.refused(NONE, x -> x.load(1, 9), "it is on it");
        o.due(3, x -> x.load(2, 5), "it is not");
        o.due(1, x -> x.carts(99), "the list is empty then");
        o.due(1, x -> x.load(0, 5), "it is no longer on it");
    }

    private static void p31_fullAt10() {
        Office o = shops(12);
        for (int i = 11; i >= 2; i--) {
            int shop = i;
            o.due(12 - i, x -> x.load(shop, 5), "how many there are");
        }
        o.refused(FULL, x -> x.load(1, 5), "the 11th");
        o.refused(FULL, x -> x.load(0, 99), "the 11th");
    }

    private static void p31_noneAheadOfFull() {
        Office o = shops(11);
        loads(o, 5, 5, 5, 5, 5, 5, 5, 5, 5, 5);
        o.refused(NONE, x -> x.load(0, 5), "it is on it when full");
        o.refused(NONE, x -> x.load(10, 0), "load 0 when full");
        o.refused(NONE, x -> x.load(10, 100), "load 100 when full");
        o.refused(NONE, x -> x.load(11, 5), "no such shop when full");
        o.refused(FULL, x -> x.load(10, 5), "full");
    }

    // Promise 32: "CARTS for ROOM r; the list is empty then. NONE; STATE: it is empty; NOT (it is empty then, too)." ROOM 1 .. 99.

    private static void p32_roomFrom1To99() {
        Office o = shops(2);
        loads(o, 1, 1);
        o.refused(NONE, x -> x.carts(0), "ROOM 0");
        o.refused(NONE, x -> x.carts(100), "ROOM 100");
        for (int v : FAR_OUT) o.refused(NONE, x -> x.carts(v), "ROOM " + v);
        o.due(2, x -> x.carts(1), "ROOM 1");
        loads(o, 99);
        o.due(1, x -> x.carts(99), "ROOM 99");
    }

    private static void p32_stateIfTheListIsEmpty() {
        Office o = shops(1);
        o.refused(STATE, x -> x.carts(1), "nothing was told");
        loads(o, 5);
        o.due(1, x -> x.carts(5), "one load");
        o.refused(STATE, x -> x.carts(5), "the list is empty then");
    }

    private static void p32_noneAheadOfState() {
        Office o = shops(1);
        o.refused(NONE, x -> x.carts(0), "ROOM 0 with an empty list");
        o.refused(NONE, x -> x.carts(100), "ROOM 100 with an empty list");
    }

    private static void p32_notIfALoadIsMore() {
        Office o = shops(3);
        loads(o, 5, 6, 5);
        o.due(NOT, x -> x.carts(5), "the second is more");
        o.refused(STATE, x -> x.carts(6), "the list is empty then, too");
        loads(o, 5, 6, 5);
        o.due(3, x -> x.carts(6), "just as much as ROOM");
        loads(o, 1, 1, 99);
        o.due(NOT, x -> x.carts(98), "the last is more");
    }

    private static void p32_noneAheadOfNot() {
        Office o = shops(1);
        loads(o, 99);
        o.refused(NONE, x -> x.carts(0), "ROOM 0 with a load that is more");
        o.due(NOT, x -> x.carts(98), "a load that is more");
    }

    private static void p32_noneHasMoreThanRoom() {
        Office o = shops(4);
        loads(o, 5, 5);
        o.due(1, x -> x.carts(10), "just as much as ROOM");
        loads(o, 5, 6);
        o.due(2, x -> x.carts(10), "one more than ROOM");
        loads(o, 5, 5, 5, 5);
        o.due(2, x -> x.carts(14), "two in each");
        loads(o, 5, 5, 5, 5);
        o.due(2, x -> x.carts(19), "three in one");
        loads(o, 5, 5, 5, 5);
        o.due(1, x -> x.carts(20), "all in one");
    }

    private static void p32_eachLoadGoesWhole() {
        Office o = shops(3);
        loads(o, 6, 6, 6);
        o.due(3, x -> x.carts(9), "18 would go in two carts of 9 if they were cut");
        loads(o, 6, 6, 6);
        o.due(3, x -> x.carts(11), "no two go in one");
        loads(o, 6, 6, 6);
        o.due(2, x -> x.carts(12), "two go in one");
    }

    private static void p32_fewest() {
        Office o = shops(10);
        loads(o, 4, 4, 6, 6);
        o.due(2, x -> x.carts(10), "the first cart with room would need three");
        loads(o, 6, 6, 4, 4);
        o.due(2, x -> x.carts(10), "the other way round");
        // 3 + 7, 4 + 6, 5 + 5; as they come, 3 and 4 would go in one.
        loads(o, 3, 4, 5, 5, 6, 7);
        o.due(3, x -> x.carts(10), "three full ones");
        // The greatest first would put 43 and 36 in one cart, 35 and 32 and 28 in the next, 24 in a third.
        loads(o, 43, 36, 35, 32, 28, 24);
        o.due(2, x -> x.carts(99), "43 + 32 + 24, 36 + 35 + 28");
        loads(o, 50, 49, 48, 51, 52, 47, 50, 49, 46, 53);
        o.due(5, x -> x.carts(99), "five of 99 by twos");
    }

    private static void p32_tenEach() {
        Office o = shops(10);
        loads(o, 50, 50, 50, 50, 50, 50, 50, 50, 50, 50);
        o.due(10, x -> x.carts(99), "one in each");
        loads(o, 33, 33, 33, 33, 33, 33, 33, 33, 33, 33);
        o.due(4, x -> x.carts(99), "three in each and one");
        loads(o, 9, 9, 9, 9, 9, 9, 9, 9, 9, 9);
        o.due(1, x -> x.carts(90), "all in one");
        loads(o, 9, 9, 9, 9, 9, 9, 9, 9, 9, 9);
        o.due(2, x -> x.carts(89), "all but one");
    }

    // Promise 33: "The CART of a SHOP by the latest carts() that found a packing. NONE: none such, or before any."

    private static void p33_beforeAny() {
        Office o = shops(2);
        o.told(NONE, x -> x.cart(0), "before any");
        loads(o, 5, 9);
        o.told(NONE, x -> x.cart(0), "on the list alone");
        o.due(NOT, x -> x.carts(8), "one that finds none");
        o.told(NONE, x -> x.cart(0), "none was found");
    }

    private static void p33_noneSuch() {
        Office o = shops(3);
        loads(o, 5, 0, 5);
        o.due(1, x -> x.carts(10), "packed");
        inCarts(o, 0, NONE, 0);
        o.told(NONE, x -> x.cart(3), "no such shop");
        for (int v : FAR_OUT) o.told(NONE, x -> x.cart(v), "shop " + v);
    }

    private static void p33_firstPacking() {
        Office o = shops(10);
        loads(o, 4, 4, 6, 6);
        o.due(2, x -> x.carts(10), "4 + 6 twice");
        inCarts(o, 0, 1, 0, 1);
        loads(o, 5, 5, 5, 5);
        o.due(2, x -> x.carts(10), "the lesser cart as long as it has room");
        inCarts(o, 0, 0, 1, 1);
        loads(o, 3, 3, 3, 7);
        o.due(2, x -> x.carts(10), "the lesser cart for the first three would leave 7 a cart of its own");
        inCarts(o, 0, 0, 0, 1);
        loads(o, 3, 3, 5, 7);
        o.due(2, x -> x.carts(10), "3 + 5 and 3 + 7: the second does not go with the first, but the third does");
        inCarts(o, 0, 1, 0, 1);
        loads(o, 9, 1, 8, 2);
        o.due(2, x -> x.carts(10), "two full ones");
        inCarts(o, 0, 0, 1, 1);
        loads(o, 8, 1, 1, 1, 9);
        o.due(2, x -> x.carts(10), "two full ones");
        inCarts(o, 0, 0, 0, 1, 1);
    }

    private static void p33_numberedAsTheyAreBegun() {
        Office o = shops(10);
        int[] loads = {50, 51, 52, 53, 54, 55, 56, 57, 58, 59};
        loads(o, loads);
        o.due(10, x -> x.carts(99), "one in each");
        inCarts(o, 0, 1, 2, 3, 4, 5, 6, 7, 8, 9);
    }

    private static void p33_byShopsInOrderOfTheirNumbers() {
        Office o = shops(4);
        int[] order = {3, 1, 2, 0};
        int[] load = {6, 4, 6, 4};
        for (int shop : order) {
            int many = load[shop];
            o.ask(x -> x.load(shop, many));
        }
        o.due(2, x -> x.carts(10), "told in another order");
        inCarts(o, 0, 0, 1, 1);
    }

    private static void p33_latestThatFoundAPacking() {
        Office o = shops(4);
        loads(o, 6, 6);
        o.due(2, x -> x.carts(10), "packed");
        inCarts(o, 0, 1, NONE, NONE);
        loads(o, 0, 9, 9);
        inCarts(o, 0, 1, NONE, NONE);
        o.due(NOT, x -> x.carts(8), "none found");
        inCarts(o, 0, 1, NONE, NONE);
        o.refused(STATE, x -> x.carts(8), "an empty list");
        o.refused(NONE, x -> x.carts(0), "ROOM 0");
        inCarts(o, 0, 1, NONE, NONE);
        loads(o, 0, 9, 0, 9);
        o.due(2, x -> x.carts(9), "packed anew");
        inCarts(o, NONE, 0, NONE, 1);
    }

    // Promise 34: "How many: 0 PLACES, 1 SHOPS, 2 open ones, 3 DAY, 4 TERMS, 5 SITES, 6 coins in THE FUND, 7 bytes on THE TAPE,
    // 8 NOTICES that are running. NONE."

    private static void p34_whatFrom0To8() {
        Office o = shops(0);
        o.told(NONE, x -> x.count(-1), "what -1");
        o.told(NONE, x -> x.count(9), "what 9");
        for (int v : FAR_OUT) o.told(NONE, x -> x.count(v), "what " + v);
        for (int i = 0; i <= 8; i++) {
            int what = i;
            o.told(0, x -> x.count(what), "what " + i + " of a new object");
        }
    }

    private static void p34_eachOfItsOwn() {
        Office o = shops(4);
        o.places(1, 1);
        o.terms(ROYALTY, 0, "10");
        o.terms(FUND, 0, "20");
        o.terms(CURE, 0, "30");
        o.ask(x -> x.days(31));
        for (int i = 0; i < 4; i++) {
            int shop = i;
            o.ask(x -> x.month(shop, 0, 0, 0, 0));
            if (i < 3) o.ask(x -> x.notice(shop));
        }
        o.ask(x -> x.pay(3, 17));
        o.ask(x -> x.close(3));
        o.ask(x -> x.site(5));
        o.ask(x -> x.feed(4, 0));
        o.ask(x -> x.feed(1, 0));
        int[] want = {6, 4, 3, 31, 3, 1, 7, 5, 3};
        for (int i = 0; i <= 8; i++) {
            int what = i;
            o.told(want[i], x -> x.count(what), "what " + i);
        }
    }

    private static void p34_greatest() {
        Office o = new Office(checks);
        o.row(30, 9);
        o.openAndClose(10, 29);
        for (int i = 0; i < 30; i++) o.open(i, 150);
        for (int i = 0; i < 10; i++) {
            int place = i;
            o.ask(x -> x.site(place));
        }
        for (int i = 0; i < 20; i++) o.terms(i % 2, 0, "1");
        o.feed("1".repeat(120));
        o.until(9999);
        int[] want = {30, 40, 30, 9999, 20, 10, 0, 120, 0};
        for (int i = 0; i <= 8; i++) {
            int what = i;
            o.due(want[i], x -> x.count(what), "what " + i);
        }
    }

    private static void p34_runningNoticesAlone() {
        Office o = shops(5);
        o.terms(ROYALTY, 0, "10");
        o.terms(CURE, 0, "2");
        o.ask(x -> x.days(30));
        for (int i = 0; i < 5; i++) {
            int shop = i;
            o.ask(x -> x.month(shop, 0, 0, 0, 0));
            o.told(i, x -> x.count(8), "running");
            o.ask(x -> x.notice(shop));
        }
        o.told(5, x -> x.count(8), "running");
        o.ask(x -> x.pay(1, 10));
        o.told(4, x -> x.count(8), "one is CURED");
        o.ask(x -> x.close(0));
        o.told(3, x -> x.count(8), "of one the SHOP was closed by a call");
        o.ask(x -> x.days(2));
        o.told(3, x -> x.count(8), "on their last day");
        o.ask(x -> x.days(1));
        o.told(0, x -> x.count(8), "the others are LAPSED");
        o.told(1, x -> x.count(2), "open ones");
    }
}
