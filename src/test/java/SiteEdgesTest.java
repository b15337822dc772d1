/** Promises 14 to 16: a test for each sentence that names an edge. */
public final class SiteEdgesTest {
    private static final int NONE = -1, FULL = -2, STATE = -3, NOT = -4;
    private static final int[] FAR_OUT = {Integer.MIN_VALUE, -1000000, -1, Integer.MAX_VALUE};
    private static final Checks checks = new Checks();

    public static void main(String[] args) throws ReflectiveOperationException {
        checks.runSentences(SiteEdgesTest.class);
        checks.end();
    }

    private static Office office(int... doors) {
        return new Office(checks, doors);
    }

    private static void sites(Office o, int... places) {
        for (int p : places) checks.holds(o.ask(x -> x.site(p)) > 0, "place " + p + " is told as a site");
    }

    /** What best() found last; NONE for those that it did not find. */
    private static void found(Office o, int first, int second, int third, String what) {
        o.told(first, x -> x.found(0), "first site " + what);
        o.told(second, x -> x.found(1), "second site " + what);
        o.told(third, x -> x.found(2), "third site " + what);
    }

    // Promise 14: "A PLACE is told as a SITE: how many. NONE (also: it is one), FULL." At most 10 SITES.

    private static void p14_placesThatAre() {
        Office o = office(1, 1);
        o.refused(NONE, x -> x.site(2), "a place that is not yet");
        for (int v : FAR_OUT) o.refused(NONE, x -> x.site(v), "place " + v);
        o.due(1, x -> x.site(1), "the last place");
        o.due(2, x -> x.site(0), "the first place");
    }

    private static void p14_place29() {
        Office o = office();
        o.row(30, 9);
        o.refused(NONE, x -> x.site(30), "place 30");
        o.due(1, x -> x.site(29), "place 29");
    }

    private static void p14_noneIfItIsOne() {
        Office o = office(1, 1, 1);
        sites(o, 0, 2, 1);
        for (int p = 0; p < 3; p++) {
            int place = p;
            o.refused(NONE, x -> x.site(place), "place " + p + " is one");
        }
        o.told(3, x -> x.count(5), "SITES");
    }

    private static void p14_fullAt10() {
        Office o = office();
        o.row(12, 9);
        for (int i = 1; i <= 10; i++) {
            int place = i;
            o.due(i, x -> x.site(place), "how many");
        }
        o.refused(FULL, x -> x.site(0), "the 11th");
        o.refused(FULL, x -> x.site(11), "the 11th");
        o.told(10, x -> x.count(5), "SITES");
    }

    private static void p14_noneAheadOfFull() {
        Office o = office();
        o.row(11, 9);
        for (int i = 0; i < 10; i++) sites(o, i);
        o.refused(NONE, x -> x.site(0), "it is one when full");
        o.refused(NONE, x -> x.site(9), "it is one when full");
        o.refused(NONE, x -> x.site(11), "no such place when full");
        o.refused(FULL, x -> x.site(10), "full");
    }

    private static void p14_whereAShopIs() {
        Office o = office(1, 1);
        o.open(0, 150);
        o.due(1, x -> x.site(0), "where an open one is");
        o.ask(x -> x.close(0));
        o.refused(NONE, x -> x.site(0), "it is one still");
    }

    // Promise 15: "BEST SITES: the sum. who as open(). NONE (n 1 .. 3, h 0 .. 1000); NOT."

    private static void p15_nFrom1To3() {
        Office o = office(1, 2, 4, 8);
        sites(o, 0, 1, 2, 3);
        o.refused(NONE, x -> x.best(0, 150, 0), "n 0");
        o.refused(NONE, x -> x.best(4, 150, 0), "n 4");
        for (int v : FAR_OUT) o.refused(NONE, x -> x.best(v, 150, 0), "n " + v);
        o.due(80, x -> x.best(1, 150, 0), "n 1");
        o.due(120, x -> x.best(2, 150, 0), "n 2");
        o.due(140, x -> x.best(3, 150, 0), "n 3");
    }

    private static void p15_whoAsOpen() {
        Office o = office(1);
        sites(o, 0);
        int[] wrong = {0, 100, 1400, 1500, 1501, 1599, -1, -50, -99, -150};
        for (int v : wrong) o.refused(NONE, x -> x.best(1, v, 0), "who " + v);
        for (int v : FAR_OUT) o.refused(NONE, x -> x.best(1, v, 0), "who " + v);
        int[] right = {1, 99, 101, 1401, 1499};
        for (int v : right) o.due(10, x -> x.best(1, v, 0), "who " + v);
    }

    private static void p15_hFrom0To1000() {
        Office o = office(1);
        sites(o, 0);
        o.refused(NONE, x -> x.best(1, 150, -1), "h -1");
        o.refused(NONE, x -> x.best(1, 150, 1001), "h 1001");
        for (int v : FAR_OUT) o.refused(NONE, x -> x.best(1, 150, v), "h " + v);
        o.due(10, x -> x.best(1, 150, 0), "h 0");
        o.due(10, x -> x.best(1, 150, 1000), "h 1000");
    }

    private static void p15_noneAheadOfNot() {
        Office o = office(1);
        o.refused(NONE, x -> x.best(0, 150, 0), "n 0 without sites");
        o.refused(NONE, x -> x.best(1, 100, 0), "LIKE 0 without sites");
        o.refused(NONE, x -> x.best(1, 150, 1001), "h 1001 without sites");
        o.refused(NOT, x -> x.best(1, 150, 1000), "no sites");
    }

    private static void p15_notIfThereAreTooFewSites() {
        Office o = office(1, 1, 1);
        o.refused(NOT, x -> x.best(1, 150, 1000), "no sites");
        sites(o, 0);
        o.due(10, x -> x.best(1, 150, 1000), "one of one");
        o.refused(NOT, x -> x.best(2, 150, 1000), "two of one");
        sites(o, 1);
        o.due(20, x -> x.best(2, 150, 1000), "two of two");
        o.refused(NOT, x -> x.best(3, 150, 1000), "three of two");
        sites(o, 2);
        o.due(30, x -> x.best(3, 150, 1000), "three of three");
    }

    private static void p15_sumOf0IsAnAnswer() {
        Office o = office(0, 0);
        sites(o, 1, 0);
        o.due(0, x -> x.best(1, 150, 0), "no doors at all");
        found(o, 1, NONE, NONE, "of those without doors");
    }

    private static void p15_withoutAnOpenShop() {
        Office o = office(90, 80, 70);
        sites(o, 0, 1, 2);
        o.open(0, 250);
        o.due(800, x -> x.best(1, 150, 1000), "another's is at the greatest");
        found(o, 1, NONE, NONE, "without an open shop");
        o.open(1, 150);
        o.due(800 + 700, x -> x.best(1, 150, 1000), "its own is at the next");
        found(o, 2, NONE, NONE, "without an open shop");
        o.refused(NOT, x -> x.best(2, 150, 1000), "one alone is left");
        o.ask(x -> x.close(0));
        o.due(900 + 800, x -> x.best(1, 150, 1000), "where one was closed");
        found(o, 0, NONE, NONE, "where one was closed");
    }

    private static void p15_landOfAnotherOwners() {
        Office o = office(90, 0, 0, 80, 5);
        o.ask(x -> x.street(0, 1, 5));
        o.ask(x -> x.street(1, 2, 6));
        o.open(2, 201);
        sites(o, 0, 3, 4);
        o.ask(x -> x.reach(0, 10));
        o.due(900 * 99000 / 99083, x -> x.best(1, 199, 1000), "beyond its REACH");
        o.ask(x -> x.reach(0, 11));
        o.due(800, x -> x.best(1, 199, 1000), "within its REACH");
        found(o, 3, NONE, NONE, "out of its land");
        o.due(899 + 800 + 50, x -> x.best(3, 299, 1000), "its own OWNER may");
        o.refused(NOT, x -> x.best(3, 199, 1000), "none of the three may be there");
        o.ask(x -> x.close(0));
        o.due(900, x -> x.best(1, 199, 1000), "the land of a closed one");
    }

    private static void p15_landIsThatOfTheNearest() {
        Office o = office(90, 10, 0, 0);
        o.ask(x -> x.street(0, 2, 1));
        o.ask(x -> x.street(0, 3, 2));
        o.open(2, 101);
        o.open(3, 201);
        o.ask(x -> x.reach(0, 9));
        o.ask(x -> x.reach(1, 9));
        sites(o, 0, 1);
        o.refused(NOT, x -> x.best(2, 250, 1000), "nearer to the other's");
        checks.holds(o.ask(x -> x.best(2, 150, 1000)) > 0, "nearer to its own, within the other's REACH, too");
    }

    private static void p15_harmAboveH() {
        // With LIKE 20 at place 1 the shop keeps 500 of 1000.
        Office o = office(100, 0);
        o.ask(x -> x.street(0, 1, 1));
        o.open(0, 210);
        sites(o, 1);
        o.refused(NOT, x -> x.best(1, 120, 0), "h 0");
        o.refused(NOT, x -> x.best(1, 120, 499), "h one less than the HARM");
        o.due(500, x -> x.best(1, 120, 500), "h as great as the HARM");
        o.due(500, x -> x.best(1, 120, 501), "h one more");
        o.due(1000, x -> x.best(1, 220, 0), "no matter to shops of that OWNER");
    }

    private static void p15_harmIsRoundedUp() {
        // With LIKE 10 at place 1 the shop keeps 666 of 1000: 334. By SPEND 9 it is 600 of 900: 333.3, up.
        Office o = office(100, 0);
        o.ask(x -> x.rule(0, 9));
        o.ask(x -> x.street(0, 1, 1));
        o.open(0, 210);
        sites(o, 1);
        o.refused(NOT, x -> x.best(1, 110, 333), "333.3 is above 333");
        o.due(300, x -> x.best(1, 110, 334), "333.3 is 334, up");
    }

    private static void p15_harmByAllTheNewOnes() {
        // Each of LIKE 20 alone harms by 500; both leave 1000 * 10000 / 30000 = 333.
        Office o = office(100, 0, 0);
        o.ask(x -> x.street(0, 1, 1));
        o.ask(x -> x.street(0, 2, 1));
        o.open(0, 210);
        sites(o, 1, 2);
        o.due(500, x -> x.best(1, 120, 500), "one");
        o.refused(NOT, x -> x.best(2, 120, 500), "two, each of 500");
        o.refused(NOT, x -> x.best(2, 120, 666), "two, of 667 together");
        o.due(666, x -> x.best(2, 120, 667), "two, of 667 together");
    }

    private static void p15_everyOtherOwnersShop() {
        Office o = office(100, 0, 100, 0, 3);
        o.ask(x -> x.street(0, 1, 1));
        o.ask(x -> x.street(2, 3, 1));
        o.open(0, 210);
        o.open(2, 310);
        sites(o, 1, 3, 4);
        o.due(30, x -> x.best(1, 120, 499), "neither the first nor the last shop may be harmed");
        found(o, 4, NONE, NONE, "without harm");
        o.due(500 + 500, x -> x.best(2, 120, 500), "both of them may");
        found(o, 1, 3, NONE, "with harm");
        o.ask(x -> x.close(0));
        o.due(1000, x -> x.best(1, 120, 499), "a closed one is not harmed");
    }

    private static void p15_harmOfAShopForetoldNothing() {
        Office o = office(0, 0, 50);
        o.ask(x -> x.street(0, 1, 1));
        o.open(0, 210);
        sites(o, 1);
        o.due(0, x -> x.best(1, 199, 0), "0 if it was 0");
    }

    private static void p15_sumOfAllShopsOfThatOwner() {
        Office o = office(100, 0, 70, 30);
        o.ask(x -> x.street(0, 1, 1));
        o.open(0, 110);
        o.open(3, 250);
        sites(o, 1, 2);
        // At place 1 LIKE 20 takes but from its own (500 + 500), at place 2 it brings 700.
        o.due(1000 + 700, x -> x.best(1, 120, 0), "its old one's and the new one's");
        found(o, 2, NONE, NONE, "where it takes nothing from its own");
        o.ask(x -> x.close(0));
        o.due(1000, x -> x.best(1, 120, 0), "a closed one has none");
        found(o, 1, NONE, NONE, "at the greater one then");
    }

    private static void p15_likeOfTheNewOnes() {
        Office o = office(100, 0);
        o.ask(x -> x.street(0, 1, 1));
        o.open(0, 210);
        sites(o, 1);
        o.due(47, x -> x.best(1, 101, 1000), "LIKE 1: 1000 * 500 / 10500");
        o.due(831, x -> x.best(1, 199, 1000), "LIKE 99: 1000 * 49500 / 59500");
    }

    private static void p15_ofSeveralTheFirst() {
        Office o = office(5, 5, 5, 5);
        sites(o, 3, 1, 0, 2);
        o.due(50, x -> x.best(1, 150, 0), "one of four");
        found(o, 3, NONE, NONE, "told first");
        o.due(100, x -> x.best(2, 150, 0), "two of four");
        found(o, 3, 1, NONE, "told first");
        o.due(150, x -> x.best(3, 150, 0), "three of four");
        found(o, 3, 1, 0, "told first");
    }

    private static void p15_firstThatDiffersBeingLess() {
        // The sites 0 and 3 (90 and 10) bring as much as 1 and 2 (50 and 50).
        Office o = office(90, 50, 50, 10);
        sites(o, 0, 1, 2, 3);
        o.ask(x -> x.open(0, 150));
        o.ask(x -> x.close(0));
        o.due(1400, x -> x.best(2, 150, 0), "90 and 50");
        found(o, 0, 1, NONE, "the lesser of two like ones");
        Office p = office(60, 50, 50, 40, 1);
        sites(p, 0, 3, 4, 1, 2);
        p.due(1100, x -> x.best(2, 150, 0), "60 and 50");
        found(p, 0, 1, NONE, "told ahead of the other of 50");
    }

    private static void p15_firstOfLikeSumsOverWays() {
        // Each of places 0 to 3 has a street to the doors of place 4 or 5: 0 and 3 to 4, 1 and 2 to 5.
        Office o = office(0, 0, 0, 0, 10, 10);
        o.ask(x -> x.street(0, 4, 1));
        o.ask(x -> x.street(3, 4, 1));
        o.ask(x -> x.street(1, 5, 1));
        o.ask(x -> x.street(2, 5, 1));
        sites(o, 0, 3, 2, 1);
        o.due(200, x -> x.best(2, 150, 0), "one at each");
        found(o, 0, 2, NONE, "sites 0 and 2 ahead of 0 and 3, 1 and 2, 1 and 3; 0 and 1 bring less");
        o.due(200, x -> x.best(3, 150, 0), "three");
        found(o, 0, 3, 2, "sites 0, 1, 2");
    }

    private static void p15_allTenSites() {
        Office o = office();
        for (int i = 0; i < 10; i++) o.places(10 + i);
        for (int i = 9; i >= 0; i--) sites(o, i);
        o.due(190 + 180 + 170, x -> x.best(3, 150, 0), "the first three of ten");
        found(o, 9, 8, 7, "in order of the sites");
        Office p = office();
        for (int i = 0; i < 10; i++) p.places(10 + i);
        for (int i = 0; i < 10; i++) sites(p, i);
        p.due(190 + 180 + 170, x -> x.best(3, 150, 0), "the last three of ten");
        found(p, 7, 8, 9, "in order of the sites");
    }

    private static void p15_nothingIsOpened() {
        Office o = office(100, 100);
        sites(o, 0, 1);
        o.open(0, 250);
        o.due(1000, x -> x.best(1, 150, 0), "best");
        o.told(1, x -> x.count(1), "SHOPS");
        o.told(1000, x -> x.foretold(0), "foretold");
        o.due(1000, x -> x.best(1, 150, 0), "best again");
    }

    private static void p15_stateIsNoAnswerOfIt() {
        Office o = office(100, 50);
        sites(o, 0, 1);
        o.openAndClose(40, 0);
        checks.holds(o.ask(x -> x.open(0, 150)) == FULL, "40 shops were told");
        checks.holds(o.ask(x -> x.best(1, 150, 0)) != STATE, "best with 40 shops");
    }

    // Promise 16: "PLACE i of the latest best() that found some. NONE."

    private static void p16_beforeAny() {
        Office o = office(100);
        sites(o, 0);
        o.told(NONE, x -> x.found(0), "before any best()");
        o.refused(NOT, x -> x.best(2, 150, 0), "one that finds none");
        o.told(NONE, x -> x.found(0), "none was found");
    }

    private static void p16_iFrom0ToN() {
        Office o = office(10, 20, 30, 40);
        sites(o, 0, 1, 2, 3);
        for (int n = 1; n <= 3; n++) {
            int many = n;
            checks.holds(o.ask(x -> x.best(many, 150, 0)) > 0, "found");
            o.told(NONE, x -> x.found(-1), "i -1");
            o.told(4 - n, x -> x.found(0), "i 0");
            o.told(3, x -> x.found(many - 1), "the last");
            o.told(NONE, x -> x.found(many), "i as great as n");
            o.told(NONE, x -> x.found(3), "i 3");
            o.told(NONE, x -> x.found(4), "i 4");
        }
        for (int v : FAR_OUT) o.told(NONE, x -> x.found(v), "i " + v);
    }

    private static void p16_latestThatFoundSome() {
        Office o = office(10, 20);
        sites(o, 0, 1);
        o.due(300, x -> x.best(2, 150, 0), "two");
        o.refused(NOT, x -> x.best(3, 150, 0), "NOT");
        o.refused(NONE, x -> x.best(1, 100, 0), "NONE");
        found(o, 0, 1, NONE, "behind refused ones");
        o.due(200, x -> x.best(1, 150, 0), "one");
        found(o, 1, NONE, NONE, "of the later one");
        o.open(1, 150);
        found(o, 1, NONE, NONE, "though a shop is there now");
    }
}
