/** One method for each promise: ordinary inputs, the edges that the document names, and wrong inputs. */
public final class PromiseTest {
    private static final int NONE = -1, FULL = -2, STATE = -3, NOT = -4, NO_VALUE = -2000000000;
    private static final int ROYALTY = 0, FUND = 1, CURE = 2;
    private static final Checks checks = new Checks();

    private static void due(long want, long got, String what) {
        checks.due(want, got, what);
    }

    private static void feedAll(BreadLands x, String text) {
        for (int i = 0; i < text.length(); i++) x.feed(1, text.charAt(i));
    }

    private static int make(BreadLands x, int kind, int day, String text) {
        feedAll(x, text);
        return x.terms(kind, day);
    }

    private static BreadLands townOf(int... doors) {
        BreadLands x = new BreadLands();
        for (int d : doors) x.place(d);
        return x;
    }

    /** Lets days go by up to a day. */
    private static void until(BreadLands x, int day) {
        for (int left = day - x.count(3); left > 0; left -= 360) x.days(Math.min(360, left));
    }

    /** What a text gives for shop 0 in month 0 of a chain of one shop. */
    private static int worth(String text) {
        BreadLands x = townOf(5);
        x.open(0, 150);
        int number = make(x, ROYALTY, 0, text);
        return number < 0 ? number : x.gives(number, 0, 0);
    }

    public static void main(String[] args) {
        promise1();
        promise2();
        promise3();
        promise4();
        promise5();
        promise6();
        promise7();
        promise8();
        promise9();
        promise10();
        promise11();
        promise12();
        promise13();
        promise14();
        promise15();
        promise16();
        promise17();
        promise18();
        promise18Faults();
        promise19();
        promise20();
        promise20Reckoning();
        promise21();
        promise22();
        promise23();
        promise24();
        promise25();
        promise26();
        promise27();
        promise28();
        promise29();
        promise30();
        promise31();
        promise32();
        promise33();
        promise34();
        checks.end();
    }

    private static void promise1() {
        checks.part("promise 1");
        due(-1, BreadLands.NONE, "NONE");
        due(-2, BreadLands.FULL, "FULL");
        due(-3, BreadLands.STATE, "STATE");
        due(-4, BreadLands.NOT, "NOT");
        due(-2000000000, BreadLands.NO_VALUE, "NO_VALUE");
        BreadLands x = new BreadLands();
        for (int what = 0; what <= 8; what++) due(0, x.count(what), "count of a new object");
        due(NONE, x.way(0, 0), "way");
        due(NONE, x.open(0, 110), "open");
        due(NONE, x.gives(0, 0, 0), "gives");
        due(NOT, x.inForce(0, 0, 0), "inForce");
        x.place(1);
        due(0, new BreadLands().count(0), "another object is its own");
    }

    private static void promise2() {
        checks.part("promise 2");
        BreadLands x = new BreadLands();
        due(NONE, x.place(-1), "doors -1");
        due(NONE, x.place(1000), "doors 1000");
        due(0, x.place(0), "doors 0");
        due(1, x.place(999), "doors 999");
        for (int i = 2; i < 30; i++) due(i, x.place(i), "place");
        due(FULL, x.place(3), "31st place");
        due(NONE, x.place(1000), "NONE is named ahead of FULL");
        due(30, x.count(0), "places");
        due(0, x.open(29, 150), "the last place is one");
        due(290, x.foretold(0), "its doors are its own");
    }

    private static void promise3() {
        checks.part("promise 3");
        BreadLands x = townOf(1, 2, 3);
        due(NONE, x.street(0, 0, 5), "one and the same");
        due(NONE, x.street(0, 3, 5), "no such place");
        due(NONE, x.street(3, 0, 5), "no such place");
        due(NONE, x.street(-1, 0, 5), "no such place");
        due(NONE, x.street(0, 1, 0), "length 0");
        due(NONE, x.street(0, 1, 100), "length 100");
        due(99, x.street(0, 1, 99), "length 99");
        due(40, x.street(1, 0, 40), "a shorter one counts, either way round");
        due(40, x.street(0, 1, 41), "a longer one does not");
        due(1, x.street(0, 1, 1), "length 1");
        due(7, x.street(1, 2, 7), "another pair");
        due(50, x.street(0, 2, 50), "the street counts by itself, not the way");
    }

    private static void promise4() {
        checks.part("promise 4");
        BreadLands x = townOf(1, 1, 1, 1, 1);
        due(0, x.way(3, 3), "to itself");
        due(NOT, x.way(0, 1), "no streets");
        due(NONE, x.way(0, 5), "no such place");
        due(NONE, x.way(5, 0), "no such place");
        due(NONE, x.way(-1, -1), "no such place");
        x.street(0, 1, 10);
        x.street(2, 3, 10);
        due(NOT, x.way(0, 3), "two halves");
        x.street(1, 2, 10);
        due(30, x.way(0, 3), "joined by the street between");
        due(30, x.way(3, 0), "back");
        x.street(0, 3, 50);
        due(30, x.way(0, 3), "the sum is less than the street");
        x.street(0, 2, 5);
        due(15, x.way(0, 3), "over a short cut");
        due(10, x.way(0, 1), "not longer by it");
        x.street(0, 1, 1);
        due(6, x.way(1, 2), "a street told shorter");
        BreadLands row = new BreadLands();
        for (int i = 0; i < 30; i++) row.place(1);
        for (int i = 0; i < 29; i++) row.street(i, i + 1, 99);
        due(2871, row.way(0, 29), "the longest way");
    }

    private static void promise5() {
        checks.part("promise 5");
        BreadLands x = new BreadLands();
        due(NONE, x.days(0), "0 days");
        due(NONE, x.days(-1), "-1 days");
        due(NONE, x.days(361), "361 days");
        due(NONE, x.days(Integer.MAX_VALUE), "far too many");
        due(1, x.days(1), "1 day");
        due(361, x.days(360), "360 days");
        until(x, 9998);
        due(NONE, x.days(2), "beyond 9999");
        due(9998, x.count(3), "changes nothing");
        due(9999, x.days(1), "the last day");
        due(NONE, x.days(1), "none behind it");
    }

    private static void promise6() {
        checks.part("promise 6");
        BreadLands x = townOf(10);
        x.open(0, 150);
        due(NONE, x.rule(0, 0), "SPEND 0");
        due(NONE, x.rule(0, 100), "SPEND 100");
        due(NONE, x.rule(1, -1), "BREAD -1");
        due(NONE, x.rule(1, 100), "BREAD 100");
        due(NONE, x.rule(2, 5), "what 2");
        due(NONE, x.rule(-1, 5), "what -1");
        due(100, x.foretold(0), "SPEND is 10 at first");
        due(10, x.rule(0, 1), "SPEND 1");
        due(10, x.foretold(0), "takings by SPEND 1");
        due(1, x.rule(0, 99), "SPEND 99");
        due(990, x.foretold(0), "takings by SPEND 99");
        due(4, x.rule(1, 0), "BREAD is 4 at first");
        due(0, x.rule(1, 99), "BREAD was 0");
        due(99, x.rule(1, 5), "BREAD was 99");
    }

    private static void promise7() {
        checks.part("promise 7");
        BreadLands x = townOf(1, 1, 1);
        x.street(0, 1, 2);
        due(NONE, x.open(3, 150), "no such place");
        due(NONE, x.open(-1, 150), "no such place");
        due(NONE, x.open(0, 0), "who 0");
        due(NONE, x.open(0, -50), "who -50");
        due(NONE, x.open(0, 100), "LIKE 0");
        due(NONE, x.open(0, 1500), "OWNER 15");
        due(NONE, x.open(0, 1501), "OWNER 15");
        x.days(3);
        due(0, x.open(0, 1499), "OWNER 14, LIKE 99");
        due(14, x.ofShop(0, 1), "OWNER");
        due(99, x.ofShop(0, 2), "LIKE");
        due(3, x.ofShop(0, 3), "today");
        due(STATE, x.open(0, 1401), "an open one is there");
        x.reach(0, 2);
        due(STATE, x.open(1, 150), "land of another owner");
        due(1, x.open(1, 1450), "land of the same owner");
        due(2, x.open(2, 1), "OWNER 0, LIKE 1, out of the land");
        x.close(0);
        due(3, x.open(0, 501), "where one was closed");
        BreadLands many = townOf(1);
        for (int i = 0; i < 39; i++) {
            due(i, many.open(0, 101), "open");
            many.close(i);
        }
        due(39, many.open(0, 101), "the 40th");
        due(STATE, many.open(0, 101), "STATE is named ahead of FULL");
        many.close(39);
        due(FULL, many.open(0, 101), "the 41st");
        due(40, many.count(1), "shops");
    }

    private static void promise8() {
        checks.part("promise 8");
        BreadLands x = townOf(1, 1);
        x.open(0, 150);
        x.open(1, 250);
        x.reach(1, 5);
        x.days(7);
        due(NONE, x.close(2), "no such shop");
        due(NONE, x.close(-1), "no such shop");
        due(1, x.close(1), "closed");
        due(7, x.ofShop(1, 4), "today");
        due(STATE, x.close(1), "it is");
        due(NOT, x.whose(1), "its land counts no longer");
        due(-1, x.ofShop(0, 4), "the other is open");
        due(1, x.count(2), "open ones");
    }

    private static void promise9() {
        checks.part("promise 9");
        BreadLands x = townOf(1, 1);
        x.street(0, 1, 9);
        x.open(0, 150);
        due(NONE, x.reach(1, 5), "no such shop");
        due(NONE, x.reach(0, -1), "REACH -1");
        due(NONE, x.reach(0, 1000), "REACH 1000");
        due(0, x.reach(0, 999), "0 at first");
        due(0, x.whose(1), "within it");
        due(999, x.reach(0, 8), "it was 999");
        due(NOT, x.whose(1), "beyond it");
        due(0, x.whose(0), "its own place");
        due(8, x.reach(0, 0), "it was 8");
        due(NOT, x.whose(0), "REACH 0 is no land");
        x.close(0);
        due(STATE, x.reach(0, 5), "closed");
        due(NONE, x.reach(0, 1000), "NONE is named ahead of STATE");
    }

    private static void promise10() {
        checks.part("promise 10");
        BreadLands x = townOf(1, 1, 1, 1, 1, 1);
        for (int i = 0; i < 4; i++) x.street(i, i + 1, 2);
        due(NONE, x.whose(6), "no such place");
        due(NONE, x.whose(-1), "no such place");
        due(NOT, x.whose(0), "no shops");
        x.open(4, 250);
        x.open(0, 150);
        due(NOT, x.whose(0), "no reach told");
        x.reach(0, 4);
        x.reach(1, 4);
        due(0, x.whose(2), "of like ways the lesser shop");
        due(1, x.whose(1), "the nearer one");
        due(0, x.whose(3), "the nearer one");
        x.reach(0, 8);
        due(1, x.whose(0), "the nearer one, though both have it within");
        x.reach(1, 1);
        due(0, x.whose(1), "the nearer one has it not within its own");
        due(1, x.whose(0), "WAY 0");
        due(NOT, x.whose(5), "no way");
        x.close(0);
        due(NOT, x.whose(1), "closed");
    }

    private static void promise11() {
        checks.part("promise 11");
        BreadLands x = townOf(1, 1, 1);
        x.street(1, 2, 3);
        x.days(12);
        x.open(2, 345);
        int[] want = {2, 3, 45, 12, -1, 0, 0, 0};
        for (int what = 0; what < 8; what++) due(want[what], x.ofShop(0, what), "ofShop " + what);
        x.reach(0, 3);
        due(3, x.ofShop(0, 5), "REACH");
        due(2, x.ofShop(0, 6), "places in its land");
        x.street(0, 1, 1);
        x.reach(0, 4);
        due(3, x.ofShop(0, 6), "place 0, too");
        x.reach(0, 3);
        due(NONE, x.ofShop(0, 8), "what 8");
        due(NONE, x.ofShop(0, -1), "what -1");
        due(NONE, x.ofShop(1, 0), "no such shop");
        due(NONE, x.ofShop(-1, 0), "no such shop");
        x.days(1);
        x.close(0);
        due(13, x.ofShop(0, 4), "the day when it was closed");
        due(0, x.ofShop(0, 6), "no land behind it");
        due(12, x.ofShop(0, 3), "the day when it was opened");
    }

    private static void promise12() {
        checks.part("promise 12");
        BreadLands x = townOf(100, 7, 50);
        x.street(0, 1, 2);
        due(NONE, x.foretold(0), "no such shop");
        x.open(0, 110);
        due(1070, x.foretold(0), "alone: all doors that reach it");
        x.open(1, 220);
        // Place 0: pulls 10000 and 6666 of 16666; place 1: pulls 3333 and 20000 of 23333.
        due(1000 * 10000 / 16666 + 70 * 3333 / 23333, x.foretold(0), "parts of both places");
        due(1000 * 6666 / 16666 + 70 * 20000 / 23333, x.foretold(1), "parts of both places");
        x.close(1);
        due(1070, x.foretold(0), "a closed one pulls nobody");
        due(STATE, x.foretold(1), "closed");
        due(NONE, x.foretold(-1), "no such shop");
        BreadLands far = new BreadLands();
        for (int i = 0; i < 30; i++) far.place(i == 29 ? 999 : 0);
        for (int i = 0; i < 29; i++) far.street(i, i + 1, 99);
        far.open(0, 101);
        due(0, far.foretold(0), "a pull with nothing left: all 0 gives 0");
        BreadLands thin = new BreadLands();
        for (int i = 0; i < 11; i++) thin.place(i == 10 ? 7 : 0);
        for (int i = 0; i < 10; i++) thin.street(i, i + 1, 99);
        thin.open(0, 101);
        due(70, thin.foretold(0), "a pull of 1 alone has all");
        BreadLands full = townOf(100, 0);
        for (int i = 0; i < 39; i++) {
            full.open(1, 150);
            full.close(i);
        }
        full.open(0, 110);
        due(1000, full.foretold(39), "the 40th shop");
        full.street(0, 1, 1);
        due(500, full.harm(39, 1, 20), "harm with 40 shops");
        full.site(1);
        due(1000, full.best(1, 120, 0), "best with 40 shops");
        due(NOT, full.best(1, 220, 499), "best with 40 shops");
        due(500, full.best(1, 220, 500), "best with 40 shops");
        BreadLands big = townOf(999);
        big.rule(0, 99);
        big.open(0, 199);
        due(98901, big.foretold(0), "greatest numbers");
    }

    private static void promise13() {
        checks.part("promise 13");
        BreadLands x = townOf(100, 100, 0);
        x.street(0, 1, 1);
        x.open(0, 110);
        due(NONE, x.harm(1, 1, 10), "no such shop");
        due(NONE, x.harm(0, 3, 10), "no such place");
        due(NONE, x.harm(0, 1, 0), "LIKE 0");
        due(NONE, x.harm(0, 1, 100), "LIKE 100");
        due(STATE, x.harm(0, 0, 10), "an open one is there");
        due(NONE, x.harm(0, 0, 100), "NONE is named ahead of STATE");
        // Without: 2000. With: 1000 * 10000 / 15000 + 1000 * 5000 / 15000 = 666 + 333; it loses 1001 of 2000.
        due(501, x.harm(0, 1, 10), "up");
        due(0, x.harm(0, 2, 99), "nobody reaches it");
        due(2000, x.foretold(0), "the new one is not there");
        x.open(2, 250);
        due(0, x.harm(1, 1, 99), "0 if it was 0");
        x.close(0);
        due(STATE, x.harm(0, 1, 10), "closed");
        due(0, x.harm(1, 0, 10), "where one was closed");
        BreadLands even = townOf(100, 0);
        even.street(0, 1, 1);
        even.open(0, 110);
        due(500, even.harm(0, 1, 20), "no up for a whole number");
        BreadLands little = townOf(999, 0);
        little.rule(0, 1);
        little.street(0, 1, 98);
        little.open(0, 199);
        due(2, little.harm(0, 1, 1), "LIKE 1: 1 of 999 is more than 1 of 1000");
        BreadLands one = townOf(1, 0);
        one.rule(0, 1);
        one.street(0, 1, 1);
        one.open(0, 150);
        due(1000, one.harm(0, 1, 1), "all of 1");
    }

    private static void promise14() {
        checks.part("promise 14");
        BreadLands x = new BreadLands();
        for (int i = 0; i < 12; i++) x.place(1);
        due(NONE, x.site(12), "no such place");
        due(NONE, x.site(-1), "no such place");
        due(1, x.site(5), "the first");
        due(NONE, x.site(5), "it is one");
        due(2, x.site(0), "place 0");
        for (int i = 3; i <= 10; i++) due(i, x.site(i < 7 ? i - 2 : i - 1), "site");
        due(FULL, x.site(10), "the 11th");
        due(NONE, x.site(5), "NONE is named ahead of FULL");
        due(10, x.count(5), "sites");
    }

    private static void promise15() {
        checks.part("promise 15");
        BreadLands x = townOf(100, 90, 80, 80);
        due(NOT, x.best(1, 150, 1000), "no sites");
        x.site(3);
        x.site(2);
        x.site(1);
        x.site(0);
        due(NONE, x.best(0, 150, 10), "n 0");
        due(NONE, x.best(4, 150, 10), "n 4");
        due(NONE, x.best(1, 100, 10), "LIKE 0");
        due(NONE, x.best(1, 1500, 10), "OWNER 15");
        due(NONE, x.best(1, 150, -1), "h -1");
        due(NONE, x.best(1, 150, 1001), "h 1001");
        due(1000, x.best(1, 150, 0), "the greatest");
        due(1900, x.best(2, 150, 0), "two");
        due(2700, x.best(3, 150, 0), "three");
        due(3, x.found(0), "of several the first: place 3 was told ahead of 2");
        x.open(0, 101);
        due(1900, x.best(1, 150, 0), "with what the owner has");
        due(1, x.found(0), "not where an open one is");
        x.open(1, 201);
        x.reach(1, 1);
        x.street(1, 2, 1);
        due(1000 + 800, x.best(1, 101, 1000), "not in the land of another");
        due(3, x.found(0), "not in the land of another");
        due(NOT, x.best(2, 101, 1000), "fewer than two are left");
        due(1700 + 800, x.best(1, 250, 1000), "its own land is open to the owner");
        due(3, x.found(0), "its own land brings nothing more here");
        x.reach(1, 0);
        // With LIKE 10 at place 2 shop 1 (LIKE 1) keeps 900 * 1000 / 6000 + 800 * 500 / 10500 of 1700.
        due(890, x.harm(1, 2, 10), "harm");
        x.close(0);
        due(800 + 1000, x.best(2, 310, 0), "harm limit 0: places 3 and 0");
        due(750 + 761 + 1000, x.best(2, 310, 890), "harm limit as great as the harm");
        due(2, x.found(0), "place 2 was told ahead of 0");
        due(0, x.found(1), "place 0 was told last");
        due(1000 + 800, x.best(2, 310, 889), "harm limit one less");
        due(3, x.found(0), "place 3");
        BreadLands own = townOf(100, 0);
        own.street(0, 1, 1);
        own.site(1);
        own.open(0, 110);
        due(500, own.harm(0, 1, 20), "harm of the only shop");
        due(1000, own.best(1, 120, 0), "harm of the owner's own shops counts nothing");
        due(NOT, own.best(1, 220, 499), "harm of another owner's shop 0");
        due(500, own.best(1, 220, 500), "just within told harm");
    }

    private static void promise16() {
        checks.part("promise 16");
        BreadLands x = townOf(10, 20, 30, 5);
        due(NONE, x.found(0), "before any");
        x.site(2);
        x.site(0);
        x.site(1);
        x.best(2, 150, 1000);
        due(2, x.found(0), "in order of the sites as they were told");
        due(1, x.found(1), "in order of the sites as they were told");
        due(NONE, x.found(2), "only two");
        due(NONE, x.found(-1), "i -1");
        x.open(2, 250);
        due(NOT, x.best(3, 150, 1000), "none");
        due(2, x.found(0), "the latest that found some stays");
        due(NONE, x.best(0, 150, 1000), "refused");
        due(1, x.found(1), "the latest that found some stays");
        x.best(1, 150, 1000);
        due(1, x.found(0), "the newer one");
        due(NONE, x.found(1), "the newer one has one");
    }

    private static void promise17() {
        checks.part("promise 17");
        BreadLands x = townOf(5);
        x.open(0, 150);
        due(NONE, x.feed(0, 49), "n 0");
        due(NONE, x.feed(5, 49), "n 5");
        due(2, x.feed(2, 0x7f7f3231), "the lowest first, no more than n");
        due(0, x.terms(0, 0), "1, 2 is a text");
        due(12, x.gives(0, 0, 0), "12");
        due(4, x.feed(4, -1), "four of 255");
        due(-100, x.terms(0, 0), "255 is no byte of a text");
        for (int i = 1; i <= 29; i++) due(4 * i, x.feed(4, 0x2b302b30), "feed");
        due(118, x.feed(2, 0x2b30), "118");
        due(FULL, x.feed(3, 0x302b30), "121");
        due(118, x.count(7), "what is refused changes nothing");
        due(119, x.feed(1, '0'), "119");
        due(120, x.feed(1, '7'), "120");
        due(FULL, x.feed(1, '0'), "121");
        due(NONE, x.feed(5, '0'), "NONE is named ahead of FULL");
        due(1, x.terms(0, 0), "120 bytes are a text");
        due(7, x.gives(1, 0, 0), "all of them count");
    }

    private static void promise18() {
        checks.part("promise 18");
        BreadLands x = townOf(5);
        x.open(0, 150);
        x.feed(1, '7');
        due(NONE, x.terms(-1, 0), "kind -1");
        due(NONE, x.terms(3, 0), "kind 3");
        due(NONE, x.terms(0, -1), "day -1");
        due(NONE, x.terms(0, 10000), "day 10000");
        due(1, x.count(7), "the tape stays");
        due(0, x.terms(0, 9999), "day 9999");
        due(0, x.count(7), "the tape is empty");
        for (int i = 1; i < 20; i++) due(i, make(x, i % 3, 0, "" + i), "number");
        feedAll(x, "8");
        due(FULL, x.terms(0, 0), "the 21st");
        due(NONE, x.terms(3, 0), "NONE is named ahead of FULL");
        due(1, x.count(7), "the tape stays");
        due(20, x.count(4), "terms");
        due(19, x.gives(19, 0, 0), "the last stands");
    }

    private static void promise18Faults() {
        checks.part("promise 18, faults");
        String[] faulty = {"", "+", "t+", "t+)", "1234567", "12345678", "t,5", "t<", "t<5", "t<5,", "t<5,1<", "t<5<6",
            "(t", "(t<", "()", "t5", "5t", "t;", ";", "t;;", "((((((((t))))))))+(((((((((", "a", "t f", "t<5;", "T", "-1",
            "t=1,2,", "(1)2", "1/", "1*-", "t>(", "t<(5", "t<(5,", "5;t<5,6<"};
        int[] faults = {0, 0, 2, 2, 6, 6, 1, 2, 3, 4, 5, 3,
            2, 2, 1, 1, 1, 2, 0, 2, 26, 0, 1, 3, 0, 0,
            5, 3, 2, 2, 3, 4, 4, 7};
        for (int i = 0; i < faulty.length; i++) {
            BreadLands x = new BreadLands();
            due(-100 - faults[i], make(x, 0, 0, faulty[i]), faulty[i]);
            due(0, x.count(4), "no terms of " + faulty[i]);
            due(0, x.count(7), "the tape is empty behind " + faulty[i]);
        }
        due(-100 - 120, make(new BreadLands(), 0, 0, "1+".repeat(60)), "120 bytes that end too early");
        String[] sound = {"000000", "999999", "((((((((1))))))))", "t<5,1", "t=1,2;f>m,3;y+s", "(1)*(2)", "1;2;3", "1<((((((((2)))))))),((((((((3))))))))", "1+(((((((1)))))))"};
        for (String text : sound) due(0, make(new BreadLands(), 2, 3, text), text);
    }

    private static void promise19() {
        checks.part("promise 19");
        BreadLands x = new BreadLands();
        due(NOT, x.inForce(0, 0, 0), "none");
        x.days(10);
        make(x, ROYALTY, 50, "1");
        make(x, ROYALTY, 20, "2");
        make(x, FUND, 0, "3");
        x.days(10);
        make(x, ROYALTY, 30, "4");
        due(NONE, x.inForce(3, 0, 0), "kind 3");
        due(NONE, x.inForce(-1, 0, 0), "kind -1");
        due(NONE, x.inForce(0, 10000, 0), "day 10000");
        due(NONE, x.inForce(0, -1, 0), "day -1");
        due(NONE, x.inForce(0, 0, 10000), "k 10000");
        due(NONE, x.inForce(0, 0, -1), "k -1");
        due(NOT, x.inForce(0, 60, 9), "not known yet");
        due(1, x.inForce(0, 60, 10), "the one made last, though for an earlier day");
        due(NOT, x.inForce(0, 19, 10), "for none so early");
        due(1, x.inForce(0, 20, 19), "from its day on");
        due(1, x.inForce(0, 29, 9999), "the newer one is for later days");
        due(3, x.inForce(0, 30, 20), "the newer one");
        due(1, x.inForce(0, 30, 19), "as known ahead of it");
        due(2, x.inForce(1, 0, 10), "of its kind");
        due(NOT, x.inForce(2, 9999, 9999), "of its kind");
        due(1, x.inForce(0, 9999, 15), "not the one for the latest day");
        BreadLands one = new BreadLands();
        make(one, CURE, 9999, "1");
        due(NOT, one.inForce(CURE, 9998, 0), "a day ahead of its own");
        due(0, one.inForce(CURE, 9999, 0), "number 0");
    }

    private static void promise20() {
        checks.part("promise 20");
        BreadLands x = townOf(5, 5, 5, 5);
        x.days(29);
        x.open(0, 150);
        int m = make(x, ROYALTY, 0, "m");
        int y = make(x, FUND, 0, "y");
        int s = make(x, CURE, 0, "s");
        int t = make(x, ROYALTY, 0, "t*10000+f");
        due(NONE, x.gives(4, 0, 0), "no such terms");
        due(NONE, x.gives(-1, 0, 0), "no such terms");
        due(NONE, x.gives(0, 1, 0), "no such shop");
        due(NONE, x.gives(0, 0, -1), "month -1");
        due(NONE, x.gives(0, 0, 333), "month 333");
        due(332, x.gives(m, 0, 332), "m");
        due(0, x.gives(y, 0, 11), "y: 330 days");
        due(1, x.gives(y, 0, 12), "y: 360 days");
        due(27, x.gives(y, 0, 332), "y");
        x.days(1);
        x.open(1, 150);
        x.open(2, 250);
        due(1, x.gives(s, 0, 0), "s: opened by then");
        due(2, x.gives(s, 0, 1), "s: of its owner");
        due(0, x.gives(s, 2, 0), "s: itself was not open");
        x.days(29);
        x.close(1);
        due(1, x.gives(s, 0, 1), "s: closed on that day is closed by then");
        x.days(1);
        x.open(3, 150);
        due(1, x.gives(s, 0, 1), "s: opened behind it");
        due(2, x.gives(s, 0, 300), "s: as far as is told now");
        x.close(3);
        due(1, x.gives(s, 0, 300), "s: as far as is told now");
        due(0, x.gives(t, 0, 0), "t and f: 0 if none");
        x.month(0, 0, 7, 3, 0);
        due(70003, x.gives(t, 0, 0), "t and f of that month");
        due(0, x.gives(t, 0, 1), "of no other month");
        x.days(360);
        x.open(3, 350);
        due(0, x.gives(y, 4, 0), "y: 0 if that is ahead");
    }

    private static void promise20Reckoning() {
        checks.part("promise 20, reckoning");
        due(14, worth("2+3*4"), "2+3*4");
        due(20, worth("(2+3)*4"), "(2+3)*4");
        due(1, worth("10-5-4"), "from the left");
        due(2, worth("20/5/2"), "from the left");
        due(6, worth("7/2*2"), "whole numbers");
        due(0, worth("5/0"), "by 0");
        due(5, worth("5/0+5"), "by 0");
        due(0, worth("0-5"), "0 at least");
        due(3, worth("(0-7)/2+6"), "towards 0");
        due(1000000, worth("999999*2"), "1000000 at most");
        due(999999, worth("999999"), "below it");
        due(0, worth("999999*999999*0"), "0");
        due(1000000, worth("65536*65535*2+999999+999999+131072"), "wraps to 1999998");
        due(7, worth("65536*65536+7"), "wraps");
        due(0, worth("65536*32768/(0-1)"), "the least int by -1 wraps to itself");
        due(5, worth("65536*32768/(0-1)-65536*32768+5"), "the least int by -1 wraps to itself");
        due(1, worth("1<2,1;9"), "less");
        due(9, worth("2<2,1;9"), "not less");
        due(1, worth("2=2,1;9"), "like");
        due(1, worth("3>2,1;9"), "more");
        due(9, worth("2>2,1;9"), "not more");
        due(0, worth("2>2,1"), "no band holds");
        due(4, worth("2>2,1;4;5"), "the first without a test");
        due(6, worth("1=1,6;2=2,7;8"), "the first that holds");
        due(7, worth("2=1,6;2=2,7;8"), "the second that holds");
    }

    private static void promise21() {
        checks.part("promise 21");
        BreadLands x = townOf(5, 5);
        x.open(0, 150);
        make(x, ROYALTY, 0, "t/10");
        make(x, FUND, 30, "f+1");
        due(STATE, x.month(0, 0, 500, 10, 0), "it is not over");
        x.days(29);
        due(STATE, x.month(0, 0, 500, 10, 0), "its last day is today");
        x.open(1, 250);
        x.days(1);
        due(NONE, x.month(2, 0, 500, 10, 0), "no such shop");
        due(NONE, x.month(0, -1, 500, 10, 0), "month -1");
        due(NONE, x.month(0, 333, 500, 10, 0), "month 333");
        due(NONE, x.month(0, 0, -1, 10, 0), "takings -1");
        due(NONE, x.month(0, 0, 100000, 10, 0), "takings 100000");
        due(NONE, x.month(0, 0, 1, -1, 0), "flour -1");
        due(NONE, x.month(0, 0, 1, 10000, 0), "flour 10000");
        due(NONE, x.month(0, 0, 1, 0, -1), "cards -1");
        due(NONE, x.month(0, 0, 1, 0, 10000), "cards 10000");
        due(50, x.month(0, 0, 500, 10, 0), "royalty alone: the fund's terms are for later days");
        due(STATE, x.month(0, 0, 500, 10, 0), "it was told");
        due(0, x.month(1, 0, 0, 0, 0), "opened on its last day");
        x.days(30);
        make(x, FUND, 0, "1000");
        due(9999 + 1000, x.month(0, 1, 99999, 9999, 9999), "by terms as known when it is told");
        x.days(29);
        x.close(1);
        x.days(1);
        due(STATE, x.month(1, 2, 1, 1, 1), "closed on its last day");
        due(1000, x.month(1, 1, 9, 0, 0), "a closed shop's month that it was open in");
        x.days(29);
        x.close(0);
        x.days(1);
        due(1000, x.month(0, 2, 0, 0, 0), "open on that last day, closed later");
        due(STATE, x.month(0, 3, 0, 0, 0), "closed on that last day");
        BreadLands old = townOf(5);
        old.open(0, 150);
        until(old, 9989);
        due(STATE, old.month(0, 332, 1, 1, 1), "not over");
        old.days(1);
        due(0, old.month(0, 332, 1, 1, 1), "the last month; without terms 0");
    }

    private static void promise22() {
        checks.part("promise 22");
        BreadLands x = townOf(5);
        x.open(0, 150);
        x.days(300);
        due(NONE, x.isShort(0, 0), "not told");
        due(NONE, x.isShort(1, 0), "no such shop");
        due(NONE, x.isShort(0, -1), "month -1");
        due(NONE, x.isShort(0, 333), "month 333");
        x.month(0, 0, 400, 100, 400);
        x.month(0, 1, 399, 100, 0);
        x.month(0, 2, 399, 0, 400);
        due(0, x.isShort(0, 0), "just enough");
        due(1, x.isShort(0, 1), "less than its flour");
        due(1, x.isShort(0, 2), "less than its cards");
        x.rule(1, 5);
        due(1, x.isShort(0, 0), "by the BREAD that is");
        x.rule(1, 0);
        due(0, x.isShort(0, 1), "flour counts nothing");
    }

    private static void promise23() {
        checks.part("promise 23");
        BreadLands x = townOf(5);
        x.open(0, 150);
        x.days(360);
        due(NONE, x.under(1, 0), "no such shop");
        due(NONE, x.under(0, -1), "month -1");
        due(NONE, x.under(0, 333), "month 333");
        due(0, x.under(0, 332), "none told");
        x.month(0, 5, 0, 1, 0);
        x.month(0, 1, 0, 1, 0);
        due(0, x.under(0, 332), "two are short");
        x.month(0, 3, 0, 1, 0);
        due(1, x.under(0, 5), "three are short");
        due(0, x.under(0, 4), "two up to month 4");
        for (int m = 6; m < 9; m++) x.month(0, m, 5, 1, 0);
        due(1, x.under(0, 8), "three of six");
        x.month(0, 9, 5, 1, 0);
        due(0, x.under(0, 9), "the six last ones alone");
        due(1, x.under(0, 8), "up to a month");
        x.month(0, 4, 5, 1, 0);
        due(0, x.under(0, 8), "the last ones by their numbers");
        BreadLands first = townOf(5);
        first.open(0, 150);
        first.days(90);
        for (int m = 0; m < 3; m++) first.month(0, m, 0, 0, 1);
        due(1, first.under(0, 2), "month 0 counts");
    }

    private static void promise24() {
        checks.part("promise 24");
        BreadLands x = townOf(5);
        x.open(0, 150);
        make(x, ROYALTY, 0, "100");
        make(x, FUND, 0, "40");
        due(NO_VALUE, x.pay(1, 5), "no such shop");
        due(NO_VALUE, x.pay(0, 0), "0 coins");
        due(NO_VALUE, x.pay(0, 1000001), "1000001 coins");
        x.days(120);
        x.month(0, 2, 0, 0, 0);
        due(120, x.pay(0, 20), "of 140");
        x.month(0, 1, 0, 0, 0);
        due(150, x.pay(0, 110), "of 260");
        due(100, x.led(0, 1, 2), "the eldest month's royalty first");
        due(10, x.led(0, 1, 3), "then its fund");
        due(20, x.led(0, 2, 2), "what was paid stays where it was led");
        due(10, x.count(6), "in the fund");
        due(-850, x.pay(0, 1000), "beyond it");
        due(80, x.count(6), "in the fund");
        due(140, x.month(0, 0, 0, 0, 0), "due by month 0");
        due(-710, x.owed(0), "credit is used");
        due(40, x.led(0, 0, 3), "credit is led likewise");
        due(120, x.count(6), "in the fund");
        x.close(0);
        due(-1000710, x.pay(0, 1000000), "a closed one pays, too");
    }

    private static void promise25() {
        checks.part("promise 25");
        BreadLands x = townOf(5, 5);
        due(NO_VALUE, x.owed(0), "no such shop");
        x.open(0, 150);
        x.open(1, 150);
        due(0, x.owed(0), "nothing");
        due(NO_VALUE, x.owed(-1), "no such shop");
        make(x, ROYALTY, 0, "t");
        x.days(60);
        x.pay(0, 30);
        due(-30, x.owed(0), "credit");
        x.month(0, 0, 20, 0, 0);
        due(-10, x.owed(0), "less of it");
        x.month(0, 1, 25, 0, 0);
        due(15, x.owed(0), "beyond it");
        due(10, x.led(0, 1, 2), "the rest of the credit");
        due(0, x.owed(1), "another shop's is its own");
    }

    private static void promise26() {
        checks.part("promise 26");
        BreadLands x = townOf(5);
        x.open(0, 150);
        make(x, ROYALTY, 0, "70");
        make(x, FUND, 0, "30");
        x.days(60);
        due(NONE, x.led(0, 0, 0), "not told");
        x.month(0, 0, 0, 0, 0);
        x.pay(0, 80);
        int[] want = {70, 30, 70, 10};
        for (int what = 0; what < 4; what++) due(want[what], x.led(0, 0, what), "led " + what);
        due(NONE, x.led(0, 0, 4), "what 4");
        due(NONE, x.led(0, 0, -1), "what -1");
        due(NONE, x.led(1, 0, 0), "no such shop");
        due(NONE, x.led(0, 1, 0), "not told");
        due(NONE, x.led(0, 333, 0), "month 333");
        due(NONE, x.led(0, -1, 0), "month -1");
    }

    private static void promise27() {
        checks.part("promise 27");
        BreadLands x = townOf(5, 5, 5);
        for (int i = 0; i < 3; i++) x.open(i, 150);
        make(x, ROYALTY, 0, "t");
        due(NONE, x.notice(3), "no such shop");
        due(NONE, x.notice(-1), "no such shop");
        due(STATE, x.notice(0), "nothing is owed");
        x.days(60);
        for (int i = 0; i < 3; i++) x.month(i, 1, 50, 0, 0);
        due(60, x.notice(0), "without CURE terms its day is the last");
        due(STATE, x.notice(0), "one is running");
        make(x, CURE, 61, "99");
        make(x, CURE, 0, "t+m*10+s");
        due(60 + 20 + 3, x.notice(1), "m is that of today, t is not told yet");
        x.close(2);
        due(STATE, x.notice(2), "closed");
        x.pay(1, 50);
        due(STATE, x.notice(1), "nothing is owed");
        x.month(1, 0, 1, 0, 0);
        due(60 + 20 + 2, x.notice(1), "a new one behind a cured one");
        BreadLands old = townOf(5);
        old.open(0, 150);
        make(old, ROYALTY, 0, "5");
        make(old, CURE, 0, "m*1000+y");
        until(old, 9999);
        old.month(0, 0, 0, 0, 0);
        due(9999 + 333027, old.notice(0), "the last day is in month 333");
    }

    private static void promise28() {
        checks.part("promise 28");
        BreadLands x = townOf(5, 5, 5);
        for (int i = 0; i < 3; i++) x.open(i, 150);
        make(x, ROYALTY, 0, "100");
        make(x, CURE, 0, "4");
        x.days(60);
        for (int i = 0; i < 3; i++) x.month(i, 0, 50, 0, 0);
        for (int what = 0; what < 4; what++) due(NONE, x.ofNotice(0, what), "none");
        due(NONE, x.ofNotice(3, 0), "no such shop");
        for (int i = 0; i < 3; i++) x.notice(i);
        int[] want = {60, 64, 0, -1};
        for (int what = 0; what < 4; what++) due(want[what], x.ofNotice(0, what), "running " + what);
        due(NONE, x.ofNotice(0, 4), "what 4");
        due(NONE, x.ofNotice(0, -1), "what -1");
        x.days(2);
        x.pay(0, 99);
        due(0, x.ofNotice(0, 2), "one coin is owed");
        x.close(2);
        due(3, x.ofNotice(2, 2), "closed by a call");
        due(62, x.ofNotice(2, 3), "on that day");
        x.days(2);
        due(0, x.ofNotice(1, 2), "its last day is not behind");
        x.pay(0, 1);
        due(1, x.ofNotice(0, 2), "cured on its last day");
        due(64, x.ofNotice(0, 3), "at once");
        x.days(3);
        due(2, x.ofNotice(1, 2), "lapsed");
        due(65, x.ofNotice(1, 3), "on the first day behind its last one");
        due(65, x.ofShop(1, 4), "closed that day");
        due(-1, x.ofShop(0, 4), "the cured one is open");
        x.pay(1, 100);
        due(2, x.ofNotice(1, 2), "lapsed it stays");
        x.month(0, 1, 0, 0, 0);
        x.notice(0);
        due(67, x.ofNotice(0, 0), "the latest");
        due(0, x.ofNotice(0, 2), "the latest");
        due(-1, x.ofNotice(0, 3), "the latest");
    }

    private static void promise29() {
        checks.part("promise 29");
        BreadLands x = townOf(5);
        x.open(0, 150);
        due(NONE, x.gain(1, 5), "no such shop");
        due(NONE, x.gain(0, -1), "gain -1");
        due(NONE, x.gain(0, 1000), "gain 1000");
        due(0, x.gain(0, 999), "0 at first");
        due(999, x.gain(0, 3), "it was 999");
        x.close(0);
        due(3, x.gain(0, 0), "of a closed one, too");
    }

    private static void promise30() {
        checks.part("promise 30");
        BreadLands x = townOf(5, 5, 5, 5);
        for (int i = 0; i < 4; i++) x.open(i, 150);
        make(x, FUND, 0, "1000");
        x.days(30);
        x.month(0, 0, 0, 0, 0);
        x.gain(0, 1);
        due(STATE, x.spend(1), "what is not paid is not in the fund");
        x.pay(0, 1000);
        due(NONE, x.spend(0), "sum 0");
        due(NONE, x.spend(1000001), "sum 1000001");
        due(STATE, x.spend(1001), "more than it has");
        x.gain(0, 0);
        due(STATE, x.spend(10), "no gains");
        x.gain(1, 1);
        x.gain(2, 2);
        x.gain(3, 1);
        // 10 by 4 gains: 2 rest 2, 5 rest 0, 2 rest 2; one is left for the lesser shop.
        due(990, x.spend(10), "10 spent");
        int[] want = {0, 3, 5, 2};
        for (int i = 0; i < 4; i++) due(want[i], x.ofShop(i, 7), "share " + i);
        due(STATE, x.spend(10), "gains are 0 then");
        due(0, x.gain(1, 5), "gain is 0 then");
        x.gain(2, 5);
        x.gain(3, 7);
        // 5 by 17: 1 rest 8, 1 rest 8, 2 rest 1; the one left goes to shop 1.
        due(985, x.spend(5), "5 spent");
        due(3 + 2, x.ofShop(1, 7), "shares are summed");
        due(5 + 1, x.ofShop(2, 7), "shares are summed");
        due(2 + 2, x.ofShop(3, 7), "shares are summed");
        x.gain(1, 1);
        x.gain(2, 1);
        x.gain(3, 1);
        due(983, x.spend(2), "less than one each");
        due(6, x.ofShop(1, 7), "one of two");
        due(7, x.ofShop(2, 7), "one of two");
        due(4, x.ofShop(3, 7), "none of two");
        x.gain(0, 2);
        x.gain(1, 1);
        // 1 by 3: rests 1, 2; and then 2 by 3: rest 1 for shop 0, 2 for shop 1.
        due(982, x.spend(1), "one coin");
        due(1, x.ofShop(0, 7), "the greatest rest: 2 of 3");
        x.gain(0, 2);
        x.gain(1, 1);
        due(980, x.spend(2), "two coins");
        due(2, x.ofShop(0, 7), "its whole part");
        due(7, x.ofShop(1, 7), "the greatest rest: 2 of 3");
        x.gain(0, 1);
        due(0, x.spend(980), "all of it by a gain of 1");
        due(982, x.ofShop(0, 7), "all of it");
    }

    private static void promise31() {
        checks.part("promise 31");
        BreadLands x = new BreadLands();
        for (int i = 0; i < 12; i++) {
            x.place(1);
            x.open(i, 150);
        }
        due(NONE, x.load(12, 5), "no such shop");
        due(NONE, x.load(0, 0), "load 0");
        due(NONE, x.load(0, 100), "load 100");
        due(1, x.load(0, 99), "the first");
        due(NONE, x.load(0, 5), "that shop is on it");
        x.close(1);
        for (int i = 1; i < 10; i++) due(i + 1, x.load(i, 1), "load");
        due(FULL, x.load(10, 5), "the 11th");
        due(NONE, x.load(9, 5), "NONE is named ahead of FULL");
        due(2, x.carts(99), "packed");
        due(1, x.load(0, 5), "the list is empty then");
    }

    private static void promise32() {
        checks.part("promise 32");
        BreadLands x = new BreadLands();
        for (int i = 0; i < 10; i++) {
            x.place(1);
            x.open(i, 150);
        }
        due(NONE, x.carts(0), "r 0");
        due(NONE, x.carts(100), "r 100");
        due(STATE, x.carts(5), "an empty list");
        x.load(0, 6);
        due(NONE, x.carts(100), "r 100");
        due(NOT, x.carts(5), "a load is more");
        due(STATE, x.carts(6), "the list is empty then, too");
        x.load(0, 6);
        due(1, x.carts(6), "just as much");
        x.load(0, 1);
        x.load(1, 1);
        due(2, x.carts(1), "r 1");
        int[] loads = {3, 3, 2, 2, 2, 4, 4, 4, 6, 6};
        for (int i = 0; i < 10; i++) x.load(i, loads[i]);
        due(6, x.carts(6), "no cart has room left");
        // First fit would take three: 4 + 4, 6, 6; the fewest are two of 4 + 6.
        int[] hard = {4, 4, 6, 6};
        for (int i = 0; i < 4; i++) x.load(i, hard[i]);
        due(2, x.carts(10), "fewer than first fit finds");
        for (int i = 0; i < 10; i++) x.load(i, 34);
        due(5, x.carts(99), "two in each");
        for (int i = 0; i < 10; i++) x.load(i, 99);
        due(10, x.carts(99), "one in each");
    }

    private static void promise33() {
        checks.part("promise 33");
        BreadLands x = new BreadLands();
        for (int i = 0; i < 6; i++) {
            x.place(1);
            x.open(i, 150);
        }
        due(NONE, x.cart(0), "before any");
        x.load(5, 6);
        x.load(1, 4);
        x.load(4, 6);
        x.load(3, 4);
        x.carts(10);
        due(0, x.cart(1), "the first by its number");
        due(1, x.cart(3), "the lesser cart would need a third one");
        due(0, x.cart(4), "the lesser cart of those that it fits in");
        due(1, x.cart(5), "what is left");
        due(NONE, x.cart(0), "not in it");
        due(NONE, x.cart(6), "no such shop");
        due(NONE, x.cart(-1), "no such shop");
        x.load(0, 9);
        due(0, x.cart(1), "the list is not the packing");
        due(NOT, x.carts(8), "none found");
        due(1, x.cart(5), "the latest that found a packing");
        x.load(2, 5);
        x.load(0, 9);
        x.carts(9);
        due(0, x.cart(0), "the new one");
        due(1, x.cart(2), "the new one");
        due(NONE, x.cart(5), "not in the new one");
    }

    private static void promise34() {
        checks.part("promise 34");
        BreadLands x = townOf(5, 5, 5);
        x.open(0, 150);
        x.open(1, 150);
        make(x, FUND, 0, "10");
        make(x, CURE, 0, "3");
        x.days(31);
        x.month(0, 0, 0, 0, 0);
        x.month(1, 0, 0, 0, 0);
        x.notice(0);
        x.notice(1);
        x.pay(1, 4);
        x.close(1);
        x.site(2);
        x.feed(3, 0);
        int[] want = {3, 2, 1, 31, 2, 1, 4, 3, 1};
        for (int what = 0; what < 9; what++) due(want[what], x.count(what), "count " + what);
        due(NONE, x.count(9), "what 9");
        due(NONE, x.count(-1), "what -1");
        x.days(4);
        due(0, x.count(8), "lapsed");
        BreadLands many = townOf(5, 5, 5, 5);
        for (int i = 0; i < 4; i++) many.open(i, 150);
        make(many, FUND, 0, "10");
        many.days(30);
        for (int i = 1; i < 4; i++) {
            many.month(i, 0, 0, 0, 0);
            due(30, many.notice(i), "notice");
            due(i, many.count(8), "running");
        }
        many.close(0);
        due(3, many.count(2), "open ones");
        due(0, x.count(2), "closed by it");
    }
}
