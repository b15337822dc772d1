/** Promises 1 to 6: a test for each sentence that names an edge. */
public final class TownEdgesTest {
    private static final int NONE = -1, FULL = -2, STATE = -3, NOT = -4, NO_VALUE = -2000000000;
    private static final int[] FAR_OUT = {Integer.MIN_VALUE, -1000000, -1, Integer.MAX_VALUE};
    private static final Checks checks = new Checks();

    public static void main(String[] args) throws ReflectiveOperationException {
        checks.runSentences(TownEdgesTest.class);
        checks.end();
    }

    private static Office office(int... doors) {
        return new Office(checks, doors);
    }

    // Promise 1: "DAY 0, no places, no shops, no terms."

    private static void p1_constants() {
        checks.due(-1, BreadLands.NONE, "NONE");
        checks.due(-2, BreadLands.FULL, "FULL");
        checks.due(-3, BreadLands.STATE, "STATE");
        checks.due(-4, BreadLands.NOT, "NOT");
        checks.due(-2000000000, BreadLands.NO_VALUE, "NO_VALUE");
    }

    private static void p1_day0() {
        Office o = office();
        o.told(0, x -> x.count(3), "DAY");
        o.due(1, x -> x.days(1), "the first day that goes by");
    }

    private static void p1_noPlaces() {
        Office o = office();
        o.told(0, x -> x.count(0), "PLACES");
        o.told(0, x -> x.count(5), "SITES");
        o.told(NONE, x -> x.way(0, 0), "way");
        o.told(NONE, x -> x.whose(0), "whose");
        o.refused(NONE, x -> x.site(0), "site");
        o.refused(NONE, x -> x.street(0, 1, 1), "street");
        o.refused(NONE, x -> x.open(0, 101), "open");
        o.refused(NOT, x -> x.best(1, 101, 1000), "best");
        o.told(NONE, x -> x.found(0), "found");
        o.due(0, x -> x.place(0), "the first place");
    }

    private static void p1_noShops() {
        Office o = office(5);
        o.told(0, x -> x.count(1), "SHOPS");
        o.told(0, x -> x.count(2), "open ones");
        o.told(0, x -> x.count(6), "coins in the fund");
        o.told(0, x -> x.count(8), "notices");
        o.refused(NONE, x -> x.close(0), "close");
        o.refused(NONE, x -> x.reach(0, 1), "reach");
        o.told(NONE, x -> x.ofShop(0, 0), "ofShop");
        o.told(NONE, x -> x.foretold(0), "foretold");
        o.told(NONE, x -> x.harm(0, 0, 1), "harm");
        o.told(NONE, x -> x.isShort(0, 0), "isShort");
        o.told(NONE, x -> x.under(0, 0), "under");
        o.refused(NO_VALUE, x -> x.pay(0, 1), "pay");
        o.told(NO_VALUE, x -> x.owed(0), "owed");
        o.told(NONE, x -> x.led(0, 0, 0), "led");
        o.refused(NONE, x -> x.notice(0), "notice");
        o.told(NONE, x -> x.ofNotice(0, 0), "ofNotice");
        o.refused(NONE, x -> x.gain(0, 1), "gain");
        o.refused(STATE, x -> x.spend(1), "spend");
        o.refused(NONE, x -> x.load(0, 1), "load");
        o.refused(STATE, x -> x.carts(1), "carts");
        o.told(NONE, x -> x.cart(0), "cart");
        o.told(NOT, x -> x.whose(0), "whose");
        o.due(0, x -> x.open(0, 101), "the first shop");
    }

    private static void p1_noTerms() {
        Office o = office(5);
        o.open(0, 101);
        o.told(0, x -> x.count(4), "TERMS");
        o.told(0, x -> x.count(7), "bytes on the tape");
        for (int kind = 0; kind <= 2; kind++) {
            int k = kind;
            o.told(NOT, x -> x.inForce(k, 9999, 9999), "in force");
        }
        o.told(NONE, x -> x.gives(0, 0, 0), "gives");
        checks.due(0, o.make(0, 0, "1"), "the first terms");
    }

    private static void p1_memoryIsTheObjectsOwn() {
        Office o = office(5, 5);
        o.open(0, 101);
        o.feed("12");
        o.ask(x -> x.days(3));
        BreadLands other = new BreadLands();
        for (int what = 0; what <= 8; what++) checks.due(0, other.count(what), "count of another object");
        other.place(9);
        o.told(2, x -> x.count(0), "places of the one");
        checks.due(1, other.count(0), "places of the other");
    }

    // Promise 2: "A PLACE: its number. NONE, FULL." PLACES 0 .. 29, DOORS 0 .. 999.

    private static void p2_doorsFrom0() {
        office().refused(NONE, x -> x.place(-1), "DOORS -1");
        Office o = office();
        o.due(0, x -> x.place(0), "DOORS 0");
        o.open(0, 150);
        o.told(0, x -> x.foretold(0), "nobody lives there");
    }

    private static void p2_doorsTo999() {
        office().refused(NONE, x -> x.place(1000), "DOORS 1000");
        Office o = office();
        o.due(0, x -> x.place(999), "DOORS 999");
        o.open(0, 150);
        o.told(9990, x -> x.foretold(0), "all of them");
    }

    private static void p2_doorsFarOut() {
        for (int v : FAR_OUT) office(4).refused(NONE, x -> x.place(v), "DOORS " + v);
    }

    private static void p2_numbersAsTheyWereTold() {
        Office o = office();
        for (int i = 0; i < 30; i++) {
            int place = i;
            o.due(place, x -> x.place(100 + place), "the next number");
            o.due(place, x -> x.open(place, 150), "a shop there");
            o.told(1000 + 10 * place, x -> x.foretold(place), "its own doors");
        }
    }

    private static void p2_fullAt30() {
        Office o = office();
        o.row(29, 9);
        o.told(29, x -> x.count(0), "places");
        o.due(29, x -> x.place(9), "the last place");
        o.refused(FULL, x -> x.place(0), "the 31st");
        o.refused(FULL, x -> x.place(999), "the 31st");
        o.told(30, x -> x.count(0), "places");
    }

    private static void p2_noneAheadOfFull() {
        Office o = office();
        o.row(30, 9);
        o.refused(NONE, x -> x.place(-1), "DOORS -1 when full");
        o.refused(NONE, x -> x.place(1000), "DOORS 1000 when full");
    }

    // Promise 3: "A STREET: the LENGTH that counts between these two then. NONE (also one and the same)."

    private static void p3_lengthFrom1() {
        Office o = office(1, 1);
        o.refused(NONE, x -> x.street(0, 1, 0), "LENGTH 0");
        o.refused(NONE, x -> x.street(0, 1, -1), "LENGTH -1");
        o.due(1, x -> x.street(0, 1, 1), "LENGTH 1");
        o.told(1, x -> x.way(0, 1), "WAY of it");
    }

    private static void p3_lengthTo99() {
        Office o = office(1, 1);
        o.refused(NONE, x -> x.street(0, 1, 100), "LENGTH 100");
        o.due(99, x -> x.street(0, 1, 99), "LENGTH 99");
        o.told(99, x -> x.way(0, 1), "WAY of it");
    }

    private static void p3_lengthFarOut() {
        for (int v : FAR_OUT) office(1, 1).refused(NONE, x -> x.street(0, 1, v), "LENGTH " + v);
    }

    private static void p3_placesThatAre() {
        Office o = office(1, 1, 1);
        o.due(5, x -> x.street(0, 2, 5), "the first and the last place");
        o.due(4, x -> x.street(2, 1, 4), "the last place first");
        o.refused(NONE, x -> x.street(0, 3, 5), "a place that is not yet");
        o.refused(NONE, x -> x.street(3, 0, 5), "a place that is not yet");
        o.refused(NONE, x -> x.street(3, 4, 5), "two places that are not yet");
        for (int v : FAR_OUT) {
            o.refused(NONE, x -> x.street(v, 0, 5), "place " + v);
            o.refused(NONE, x -> x.street(0, v, 5), "place " + v);
        }
    }

    private static void p3_lastPlaces() {
        Office o = office();
        o.row(30, 9);
        o.due(2, x -> x.street(28, 29, 2), "the last two");
        o.refused(NONE, x -> x.street(29, 30, 2), "place 30");
        o.refused(NONE, x -> x.street(30, 29, 2), "place 30");
    }

    private static void p3_oneAndTheSame() {
        Office o = office(1, 1);
        o.refused(NONE, x -> x.street(0, 0, 5), "one and the same");
        o.refused(NONE, x -> x.street(1, 1, 5), "one and the same");
        o.told(0, x -> x.way(1, 1), "WAY to itself");
    }

    private static void p3_shortestToldCounts() {
        Office o = office(1, 1);
        o.due(50, x -> x.street(0, 1, 50), "the first");
        o.due(50, x -> x.street(0, 1, 51), "a longer one");
        o.due(50, x -> x.street(0, 1, 50), "a like one");
        o.due(49, x -> x.street(0, 1, 49), "a shorter one");
        o.due(49, x -> x.street(0, 1, 99), "the longest");
        o.told(49, x -> x.way(0, 1), "WAY");
    }

    private static void p3_shortestThatCanBe() {
        Office o = office(1, 1);
        o.due(1, x -> x.street(0, 1, 1), "LENGTH 1");
        o.due(1, x -> x.street(0, 1, 2), "a longer one");
        o.due(1, x -> x.street(1, 0, 99), "the longest");
        o.due(1, x -> x.street(0, 1, 1), "a like one");
        o.told(1, x -> x.way(0, 1), "WAY");
    }

    private static void p3_eitherWayRound() {
        Office o = office(1, 1);
        o.due(50, x -> x.street(0, 1, 50), "the first");
        o.due(50, x -> x.street(1, 0, 60), "a longer one, back");
        o.due(40, x -> x.street(1, 0, 40), "a shorter one, back");
        o.due(40, x -> x.street(0, 1, 45), "a longer one");
    }

    private static void p3_betweenTheseTwoAlone() {
        Office o = office(1, 1, 1);
        o.due(3, x -> x.street(0, 1, 3), "0 to 1");
        o.due(4, x -> x.street(1, 2, 4), "1 to 2");
        o.due(9, x -> x.street(0, 2, 9), "longer than the WAY, but the shortest street there");
        o.told(7, x -> x.way(0, 2), "WAY");
    }

    // Promise 4: "WAY; NOT: none. NONE."

    private static void p4_toItself() {
        Office o = office(1, 1);
        o.told(0, x -> x.way(0, 0), "place 0");
        o.told(0, x -> x.way(1, 1), "place 1");
        o.due(5, x -> x.street(0, 1, 5), "street");
        o.told(0, x -> x.way(0, 0), "there and back is longer");
    }

    private static void p4_noneIfThereIsNone() {
        Office o = office(1, 1, 1, 1);
        o.told(NOT, x -> x.way(0, 1), "no streets");
        o.ask(x -> x.street(0, 1, 1));
        o.ask(x -> x.street(2, 3, 1));
        o.told(NOT, x -> x.way(0, 2), "another part of the town");
        o.told(NOT, x -> x.way(3, 1), "another part of the town");
        o.told(1, x -> x.way(1, 0), "the same part");
        o.ask(x -> x.street(1, 2, 1));
        o.told(3, x -> x.way(0, 3), "joined");
    }

    private static void p4_placesThatAre() {
        Office o = office(1, 1);
        o.told(NONE, x -> x.way(0, 2), "a place that is not yet");
        o.told(NONE, x -> x.way(2, 0), "a place that is not yet");
        o.told(NONE, x -> x.way(2, 2), "a place that is not yet");
        for (int v : FAR_OUT) {
            o.told(NONE, x -> x.way(v, 0), "place " + v);
            o.told(NONE, x -> x.way(0, v), "place " + v);
            o.told(NONE, x -> x.way(v, v), "place " + v);
        }
    }

    private static void p4_leastSum() {
        Office o = office(1, 1, 1, 1);
        o.ask(x -> x.street(0, 3, 10));
        o.ask(x -> x.street(0, 1, 3));
        o.ask(x -> x.street(1, 2, 3));
        o.told(10, x -> x.way(0, 3), "the street itself");
        o.ask(x -> x.street(2, 3, 4));
        o.told(10, x -> x.way(0, 3), "a like sum");
        o.ask(x -> x.street(2, 3, 3));
        o.told(9, x -> x.way(0, 3), "three streets are less than one");
        o.told(9, x -> x.way(3, 0), "back");
        o.told(6, x -> x.way(3, 1), "a part of it");
    }

    private static void p4_shorterStreetShortensAllWays() {
        Office o = office();
        o.row(6, 10);
        o.told(50, x -> x.way(0, 5), "the row");
        o.ask(x -> x.street(2, 3, 1));
        o.told(41, x -> x.way(0, 5), "over the shorter street");
        o.told(1, x -> x.way(2, 3), "the shorter street");
        o.told(20, x -> x.way(0, 2), "not over it");
        o.ask(x -> x.street(1, 4, 2));
        o.told(22, x -> x.way(5, 0), "over the short cut");
        o.told(10, x -> x.way(1, 2), "10 is less than 2 + 10 + 1");
        o.told(11, x -> x.way(1, 3), "10 + 1 is less than 2 + 10");
    }

    private static void p4_longest() {
        Office o = office();
        o.row(30, 99);
        o.told(29 * 99, x -> x.way(0, 29), "the longest WAY");
        o.told(29 * 99, x -> x.way(29, 0), "back");
    }

    // Promise 5: "n (1 .. 360) DAYS go by (each: NOTICES are looked at): DAY. NONE (also beyond 9999)."

    private static void p5_from1To360() {
        Office o = office();
        o.refused(NONE, x -> x.days(0), "0 days");
        o.refused(NONE, x -> x.days(361), "361 days");
        for (int v : FAR_OUT) o.refused(NONE, x -> x.days(v), v + " days");
        o.due(1, x -> x.days(1), "1 day");
        o.due(361, x -> x.days(360), "360 days");
        o.refused(NONE, x -> x.days(0), "0 days later on");
    }

    private static void p5_upTo9999() {
        Office o = office();
        o.until(9998);
        o.refused(NONE, x -> x.days(2), "to day 10000");
        o.refused(NONE, x -> x.days(360), "far beyond");
        o.due(9999, x -> x.days(1), "the last day");
        o.refused(NONE, x -> x.days(1), "beyond it");
        o.told(9999, x -> x.count(3), "DAY");
    }

    private static void p5_upTo9999ByMany() {
        Office o = office();
        o.until(9639);
        Office late = office();
        late.until(9640);
        late.refused(NONE, x -> x.days(360), "360 days from 9640");
        late.due(9999, x -> x.days(359), "359 days from 9640");
        o.due(9999, x -> x.days(360), "360 days from 9639");
    }

    private static void p5_eachDayNoticesAreLookedAt() {
        Office o = office(1, 1, 1);
        for (int i = 0; i < 3; i++) o.open(i, 150);
        o.terms(0, 0, "1");
        o.ask(x -> x.days(30));
        int[] lastDays = {30, 31, 389};
        for (int i = 0; i < 3; i++) {
            int shop = i;
            o.terms(2, 0, "" + (lastDays[i] - 30));
            o.due(1, x -> x.month(shop, 0, 0, 0, 0), "due");
            o.due(lastDays[i], x -> x.notice(shop), "last day");
        }
        o.due(390, x -> x.days(360), "days");
        for (int i = 0; i < 3; i++) {
            int shop = i;
            o.told(2, x -> x.ofNotice(shop, 2), "lapsed");
            o.told(lastDays[i] + 1, x -> x.ofNotice(shop, 3), "on the day of its own");
            o.told(lastDays[i] + 1, x -> x.ofShop(shop, 4), "closed that day");
        }
    }

    // Promise 6: "SPEND (what 0), BREAD (1) becomes v: what it was. NONE." SPEND 1 .. 99 (10 at first), BREAD 0 .. 99 (4 at first).

    private static void p6_what() {
        Office o = office();
        o.refused(NONE, x -> x.rule(-1, 5), "what -1");
        o.refused(NONE, x -> x.rule(2, 5), "what 2");
        for (int v : FAR_OUT) o.refused(NONE, x -> x.rule(v, 5), "what " + v);
    }

    private static void p6_spendFrom1To99() {
        Office o = office(7);
        o.open(0, 150);
        o.refused(NONE, x -> x.rule(0, 0), "SPEND 0");
        o.refused(NONE, x -> x.rule(0, 100), "SPEND 100");
        for (int v : FAR_OUT) o.refused(NONE, x -> x.rule(0, v), "SPEND " + v);
        o.told(70, x -> x.foretold(0), "SPEND 10");
        o.due(10, x -> x.rule(0, 1), "10 at first");
        o.told(7, x -> x.foretold(0), "SPEND 1");
        o.due(1, x -> x.rule(0, 99), "1 then");
        o.told(693, x -> x.foretold(0), "SPEND 99");
        o.due(99, x -> x.rule(0, 99), "99 then");
        o.due(4, x -> x.rule(1, 4), "BREAD is another number");
    }

    private static void p6_breadFrom0To99() {
        Office o = office(7);
        o.open(0, 150);
        o.ask(x -> x.days(90));
        o.due(0, x -> x.month(0, 0, 4, 1, 0), "TAKINGS 4, FLOUR 1");
        o.due(0, x -> x.month(0, 1, 3, 1, 0), "TAKINGS 3, FLOUR 1");
        o.due(0, x -> x.month(0, 2, 98, 1, 0), "TAKINGS 98, FLOUR 1");
        o.refused(NONE, x -> x.rule(1, -1), "BREAD -1");
        o.refused(NONE, x -> x.rule(1, 100), "BREAD 100");
        for (int v : FAR_OUT) o.refused(NONE, x -> x.rule(1, v), "BREAD " + v);
        o.told(0, x -> x.isShort(0, 0), "BREAD 4");
        o.told(1, x -> x.isShort(0, 1), "BREAD 4");
        o.due(4, x -> x.rule(1, 0), "4 at first");
        o.told(0, x -> x.isShort(0, 1), "BREAD 0");
        o.due(0, x -> x.rule(1, 99), "0 then");
        o.told(1, x -> x.isShort(0, 2), "BREAD 99");
        o.due(99, x -> x.rule(1, 98), "99 then");
        o.told(0, x -> x.isShort(0, 2), "BREAD 98");
        o.due(10, x -> x.rule(0, 10), "SPEND is another number");
    }
}
