/** The office of a bread chain whose shops are other people's. */
public final class BreadLands {
    public static final int NONE = -1, FULL = -2, STATE = -3, NOT = -4, NO_VALUE = -2000000000;

    private static final int MAX_PLACES = 30, MAX_SITES = 10, MAX_SHOPS = 40, MAX_NEW = 3, MAX_STALLS = MAX_SHOPS + MAX_NEW;
    private static final int MAX_DOORS = 999, MAX_LENGTH = 99, MAX_REACH = 999, MAX_WHO = 1499, MAX_LIKE = 99;
    private static final int LAST_DAY = 9999, MAX_STEP = 360, MONTH_DAYS = 30, YEAR_DAYS = 360, MAX_MONTHS = 333;
    private static final int MAX_SPEND = 99, MAX_BREAD = 99, MAX_TAKINGS = 99999, MAX_GOODS = 9999, MAX_COINS = 1000000;
    private static final int MAX_TERMS = 20, MAX_TAPE = 120, MAX_OPEN = 8, MAX_DIGITS = 6, FAULTY = -100;
    private static final int ROYALTY = 0, FUND = 1, CURE = 2;
    private static final int RUNNING = 0, CURED = 1, LAPSED = 2, SHUT = 3;
    private static final int MAX_GAIN = 999, MAX_LOADS = 10, MAX_LOAD = 99;
    private static final int THOUSAND = 1000, WATCHED = 6, TOO_MANY_SHORT = 3;

    private final Town town;
    private final Chain chain;
    private final Market market;
    private final SiteSearch search;
    private final Shelf shelf;
    private final Fund fund;
    private final Packer packer;
    private int today;
    private int bread = 4;

    public BreadLands() {
        town = new Town();
        chain = new Chain(town);
        market = new Market(town);
        search = new SiteSearch(town, chain, market);
        shelf = new Shelf(chain);
        fund = new Fund(chain);
        packer = new Packer();
    }

    // ---- the town

    public int place(int doors) {
        if (!isWithin(doors, 0, MAX_DOORS)) return NONE;
        return town.addPlace(doors);
    }

    public int street(int a, int b, int length) {
        if (!town.hasPlace(a) || !town.hasPlace(b) || a == b || !isWithin(length, 1, MAX_LENGTH)) return NONE;
        return town.addStreet(a, b, length);
    }

    public int way(int a, int b) {
        if (!town.hasPlace(a) || !town.hasPlace(b)) return NONE;
        int least = town.wayBetween(a, b);
        return least < 0 ? NOT : least;
    }

    public int days(int n) {
        if (!isWithin(n, 1, MAX_STEP) || today + n > LAST_DAY) return NONE;
        for (int i = 0; i < n; i++) {
            today++;
            chain.lapseNotices(today);
        }
        return today;
    }

    public int rule(int what, int v) {
        if (what == 0 && isWithin(v, 1, MAX_SPEND)) {
            int was = market.doorSpend;
            market.doorSpend = v;
            return was;
        }
        if (what == 1 && isWithin(v, 0, MAX_BREAD)) {
            int was = bread;
            bread = v;
            return was;
        }
        return NONE;
    }

    // ---- shops

    public int open(int place, int who) {
        if (!town.hasPlace(place) || !isWho(who)) return NONE;
        if (chain.isTaken(place) || chain.isBarred(place, ownerIn(who))) return STATE;
        if (chain.shopCount >= MAX_SHOPS) return FULL;
        return chain.addShop(new Shop(place, ownerIn(who), likeIn(who), today));
    }

    public int close(int shop) {
        Shop told = chain.shopAt(shop);
        if (told == null) return NONE;
        if (!told.isOpen()) return STATE;
        told.shut(today, SHUT);
        return 1;
    }

    public int reach(int shop, int v) {
        Shop told = chain.shopAt(shop);
        if (told == null || !isWithin(v, 0, MAX_REACH)) return NONE;
        if (!told.isOpen()) return STATE;
        int was = told.reach;
        told.reach = v;
        return was;
    }

    public int whose(int place) {
        if (!town.hasPlace(place)) return NONE;
        int holder = chain.landHolder(place);
        return holder < 0 ? NOT : holder;
    }

    public int ofShop(int shop, int what) {
        Shop told = chain.shopAt(shop);
        if (told == null) return NONE;
        switch (what) {
            case 0: return told.place;
            case 1: return told.owner;
            case 2: return told.like;
            case 3: return told.openedDay;
            case 4: return told.closedDay;
            case 5: return told.reach;
            case 6: return chain.landSize(shop);
            case 7: return told.share;
            default: return NONE;
        }
    }

    public int foretold(int shop) {
        Shop told = chain.shopAt(shop);
        if (told == null) return NONE;
        if (!told.isOpen()) return STATE;
        market.fillFrom(chain);
        return market.takingsOf(shop);
    }

    public int harm(int shop, int place, int like) {
        Shop told = chain.shopAt(shop);
        if (told == null || !town.hasPlace(place) || !isWithin(like, 1, MAX_LIKE)) return NONE;
        if (!told.isOpen() || chain.isTaken(place)) return STATE;
        market.fillFrom(chain);
        int before = market.takingsOf(shop);
        market.addStall(place, like, NONE);
        return lossInThousandths(before, market.takingsOf(shop));
    }

    // ---- sites

    public int site(int place) {
        if (!town.hasPlace(place) || town.isSite(place)) return NONE;
        return town.addSite(place);
    }

    public int best(int n, int who, int h) {
        if (!isWithin(n, 1, MAX_NEW) || !isWho(who) || !isWithin(h, 0, THOUSAND)) return NONE;
        return search.findBest(n, who, h);
    }

    public int found(int i) {
        return search.foundAt(i);
    }

    // ---- terms

    public int feed(int n, int v) {
        if (!isWithin(n, 1, 4)) return NONE;
        return shelf.addBytes(n, v);
    }

    public int terms(int kind, int day) {
        if (!isKind(kind) || !isDay(day)) return NONE;
        return shelf.makeText(kind, day, today);
    }

    public int inForce(int kind, int day, int k) {
        if (!isKind(kind) || !isDay(day) || !isDay(k)) return NONE;
        int number = shelf.numberInForce(kind, day, k);
        return number < 0 ? NOT : number;
    }

    public int gives(int terms, int shop, int month) {
        Shop told = chain.shopAt(shop);
        if (shelf.textAt(terms) == null || told == null || !isMonth(month)) return NONE;
        return shelf.worth(terms, told, lastDayOf(month));
    }

    // ---- months

    public int month(int shop, int month, int told, int flour, int cards) {
        Shop teller = chain.shopAt(shop);
        if (teller == null || !isMonth(month) || !isWithin(told, 0, MAX_TAKINGS)) return NONE;
        if (!isWithin(flour, 0, MAX_GOODS) || !isWithin(cards, 0, MAX_GOODS)) return NONE;
        int lastDay = lastDayOf(month);
        if (teller.monthAt(month) != null || lastDay >= today || !teller.wasOpenOn(lastDay)) return STATE;
        Month sheet = new Month(told, flour, cards);
        // The terms read the month's own takings, so it stands on its place ahead of what is due by it.
        teller.keepMonth(month, sheet);
        int royalty = shelf.worth(shelf.numberInForce(ROYALTY, lastDay, today), teller, lastDay);
        int fundDue = shelf.worth(shelf.numberInForce(FUND, lastDay, today), teller, lastDay);
        teller.charge(sheet, royalty, fundDue);
        fund.coins += teller.settle(0, today);
        return royalty + fundDue;
    }

    public int isShort(int shop, int month) {
        Shop told = chain.shopAt(shop);
        if (told == null) return NONE;
        Month sheet = told.monthAt(month);
        if (sheet == null) return NONE;
        return sheet.fallsShort(bread) ? 1 : 0;
    }

    public int under(int shop, int month) {
        Shop told = chain.shopAt(shop);
        if (told == null || !isMonth(month)) return NONE;
        return told.shortMonthsUpTo(month, bread) >= TOO_MANY_SHORT ? 1 : 0;
    }

    public int pay(int shop, int coins) {
        Shop told = chain.shopAt(shop);
        if (told == null || !isWithin(coins, 1, MAX_COINS)) return NO_VALUE;
        fund.coins += told.settle(coins, today);
        return told.balance();
    }

    public int owed(int shop) {
        Shop told = chain.shopAt(shop);
        return told == null ? NO_VALUE : told.balance();
    }

    public int led(int shop, int month, int what) {
        Shop told = chain.shopAt(shop);
        if (told == null) return NONE;
        Month sheet = told.monthAt(month);
        if (sheet == null) return NONE;
        switch (what) {
            case 0: return sheet.royalty;
            case 1: return sheet.fund;
            case 2: return sheet.royaltyPaid;
            case 3: return sheet.fundPaid;
            default: return NONE;
        }
    }

    public int notice(int shop) {
        Shop told = chain.shopAt(shop);
        if (told == null) return NONE;
        if (told.balance() <= 0 || told.hasRunningNotice() || !told.isOpen()) return STATE;
        int cure = shelf.worth(shelf.numberInForce(CURE, today, today), told, today);
        told.giveNotice(today, today + cure);
        return told.noticeLastDay;
    }

    public int ofNotice(int shop, int what) {
        Shop told = chain.shopAt(shop);
        if (told == null) return NONE;
        if (told.noticeDay == NONE) return NONE;
        switch (what) {
            case 0: return told.noticeDay;
            case 1: return told.noticeLastDay;
            case 2: return told.noticeState;
            case 3: return told.noticeEndDay;
            default: return NONE;
        }
    }

    // ---- the fund, carts

    public int gain(int shop, int v) {
        Shop told = chain.shopAt(shop);
        if (told == null || !isWithin(v, 0, MAX_GAIN)) return NONE;
        int was = told.gain;
        told.gain = v;
        return was;
    }

    public int spend(int sum) {
        if (!isWithin(sum, 1, MAX_COINS)) return NONE;
        return fund.partOut(sum);
    }

    public int load(int shop, int load) {
        if (chain.shopAt(shop) == null || !isWithin(load, 1, MAX_LOAD) || packer.isListed(shop)) return NONE;
        return packer.addLoad(shop, load);
    }

    public int carts(int r) {
        if (!isWithin(r, 1, MAX_LOAD)) return NONE;
        return packer.pack(r);
    }

    public int cart(int shop) {
        return packer.cartOf(shop);
    }

    public int count(int what) {
        switch (what) {
            case 0: return town.placeCount;
            case 1: return chain.shopCount;
            case 2: return chain.openCount();
            case 3: return today;
            case 4: return shelf.textCount;
            case 5: return town.siteCount;
            case 6: return fund.coins;
            case 7: return shelf.tapeLength;
            case 8: return chain.runningNotices();
            default: return NONE;
        }
    }

    // ---- what the calls share

    private static boolean isWithin(int v, int least, int most) {
        return v >= least && v <= most;
    }

    private static boolean isDay(int day) {
        return isWithin(day, 0, LAST_DAY);
    }

    private static boolean isMonth(int month) {
        return isWithin(month, 0, MAX_MONTHS - 1);
    }

    private static boolean isKind(int kind) {
        return isWithin(kind, ROYALTY, CURE);
    }

    private static boolean isWho(int who) {
        return isWithin(who, 1, MAX_WHO) && likeIn(who) != 0;
    }

    private static int ownerIn(int who) {
        return who / 100;
    }

    private static int likeIn(int who) {
        return who % 100;
    }

    private static int lastDayOf(int month) {
        return month * MONTH_DAYS + MONTH_DAYS - 1;
    }

    private static int lossInThousandths(int before, int after) {
        if (before <= 0 || after >= before) return 0;
        long loss = (long) (before - after) * THOUSAND;
        return (int) ((loss + before - 1) / before);
    }

    private static int at(int[] row, int i) {
        return i >= 0 && i < row.length ? row[i] : 0;
    }

    private static void put(int[] row, int i, int v) {
        if (i >= 0 && i < row.length) row[i] = v;
    }

    /** Places, the streets between them, and which of them are sites. */
    private static final class Town {
        private static final int NO_WAY = -1;

        private final int[] doors = new int[MAX_PLACES];
        private final int[][] lengths = new int[MAX_PLACES][MAX_PLACES];
        private final int[][] ways = new int[MAX_PLACES][MAX_PLACES];
        private final int[] sites = new int[MAX_SITES];
        private int placeCount;
        private int siteCount;

        private Town() {
            for (int a = 0; a < ways.length; a++) {
                int[] row = ways[a];
                for (int b = 0; b < row.length; b++) row[b] = a == b ? 0 : NO_WAY;
            }
        }

        private boolean hasPlace(int place) {
            return place >= 0 && place < placeCount;
        }

        private int addPlace(int doorCount) {
            if (placeCount >= MAX_PLACES) return FULL;
            put(doors, placeCount, doorCount);
            placeCount++;
            return placeCount - 1;
        }

        private int doorsOf(int place) {
            return at(doors, place);
        }

        private int wayBetween(int a, int b) {
            return cell(ways, a, b);
        }

        private int addStreet(int a, int b, int length) {
            int told = cell(lengths, a, b);
            if (told > 0 && told <= length) return told;
            setCell(lengths, a, b, length);
            setCell(lengths, b, a, length);
            for (int from = 0; from < placeCount; from++) {
                for (int to = 0; to < placeCount; to++) {
                    offerWay(from, to, sumOf(wayBetween(from, a), length, wayBetween(b, to)));
                    offerWay(from, to, sumOf(wayBetween(from, b), length, wayBetween(a, to)));
                }
            }
            return length;
        }

        private void offerWay(int from, int to, int sum) {
            int known = wayBetween(from, to);
            if (sum != NO_WAY && (known == NO_WAY || sum < known)) setCell(ways, from, to, sum);
        }

        private static int sumOf(int head, int length, int tail) {
            return head == NO_WAY || tail == NO_WAY ? NO_WAY : head + length + tail;
        }

        private boolean isSite(int place) {
            for (int i = 0; i < siteCount; i++) {
                if (at(sites, i) == place) return true;
            }
            return false;
        }

        private int addSite(int place) {
            if (siteCount >= MAX_SITES) return FULL;
            put(sites, siteCount, place);
            siteCount++;
            return siteCount;
        }

        private int siteAt(int i) {
            return at(sites, i);
        }

        private static int cell(int[][] grid, int a, int b) {
            if (a < 0 || a >= grid.length) return NO_WAY;
            int[] row = grid[a];
            return b >= 0 && b < row.length ? row[b] : NO_WAY;
        }

        private static void setCell(int[][] grid, int a, int b, int v) {
            if (a >= 0 && a < grid.length) put(grid[a], b, v);
        }
    }

    /** What was told of a shop's month, what is due by it and what of that is paid. */
    private static final class Month {
        private final int takings;
        private final int flour;
        private final int cards;
        private int royalty;
        private int fund;
        private int royaltyPaid;
        private int fundPaid;

        private Month(int takings, int flour, int cards) {
            this.takings = takings;
            this.flour = flour;
            this.cards = cards;
        }

        private boolean fallsShort(int bread) {
            return takings < flour * bread || takings < cards;
        }

        private int payRoyalty(int coins) {
            int part = Math.min(coins, royalty - royaltyPaid);
            royaltyPaid += part;
            return part;
        }

        private int payFund(int coins) {
            int part = Math.min(coins, fund - fundPaid);
            fundPaid += part;
            return part;
        }
    }

    /** A shop with its months, what it owes, and its latest notice (on day NONE: none yet). */
    private static final class Shop {
        private final int place;
        private final int owner;
        private final int like;
        private final int openedDay;
        private final Month[] months = new Month[MAX_MONTHS];
        private int closedDay = NONE;
        private int reach;
        private int gain;
        private int share;
        private int unpaid;
        private int credit;
        private int noticeDay = NONE;
        private int noticeLastDay;
        private int noticeState;
        private int noticeEndDay;

        private Shop(int place, int owner, int like, int openedDay) {
            this.place = place;
            this.owner = owner;
            this.like = like;
            this.openedDay = openedDay;
        }

        private boolean isOpen() {
            return closedDay == NONE;
        }

        private boolean wasOpenOn(int day) {
            return openedDay <= day && (closedDay == NONE || closedDay > day);
        }

        private void shut(int day, int how) {
            closedDay = day;
            endNotice(how, day);
        }

        private Month monthAt(int number) {
            return number >= 0 && number < months.length ? months[number] : null;
        }

        private void keepMonth(int number, Month sheet) {
            if (number >= 0 && number < months.length) months[number] = sheet;
        }

        private void charge(Month sheet, int royalty, int fundDue) {
            sheet.royalty = royalty;
            sheet.fund = fundDue;
            unpaid += royalty + fundDue;
        }

        /** Leads coins and credit to what is due, the eldest month first; answers the fund's part of them. */
        private int settle(int coins, int day) {
            credit += coins;
            int toFund = 0;
            for (int i = 0; i < months.length && credit > 0; i++) {
                Month sheet = months[i];
                if (sheet == null) continue;
                int royaltyPart = sheet.payRoyalty(credit);
                int fundPart = sheet.payFund(credit - royaltyPart);
                credit -= royaltyPart + fundPart;
                unpaid -= royaltyPart + fundPart;
                toFund += fundPart;
            }
            if (unpaid == 0) endNotice(CURED, day);
            return toFund;
        }

        private int balance() {
            return unpaid - credit;
        }

        private int shortMonthsUpTo(int last, int bread) {
            int seen = 0;
            int fallen = 0;
            for (int i = last; i >= 0 && seen < WATCHED; i--) {
                Month sheet = monthAt(i);
                if (sheet == null) continue;
                seen++;
                if (sheet.fallsShort(bread)) fallen++;
            }
            return fallen;
        }

        private void giveNotice(int day, int lastDay) {
            noticeDay = day;
            noticeLastDay = lastDay;
            noticeState = RUNNING;
            noticeEndDay = NONE;
        }

        private boolean hasRunningNotice() {
            return noticeDay != NONE && noticeState == RUNNING;
        }

        private void endNotice(int how, int day) {
            if (!hasRunningNotice()) return;
            noticeState = how;
            noticeEndDay = day;
        }
    }

    /** All shops as they were opened, and their lands. */
    private static final class Chain {
        private final Town town;
        private final Shop[] shops = new Shop[MAX_SHOPS];
        private int shopCount;

        private Chain(Town town) {
            this.town = town;
        }

        private Shop shopAt(int shop) {
            return shop >= 0 && shop < shopCount && shop < shops.length ? shops[shop] : null;
        }

        private int addShop(Shop shop) {
            if (shopCount < 0 || shopCount >= shops.length) return FULL;
            shops[shopCount] = shop;
            shopCount++;
            return shopCount - 1;
        }

        private boolean isTaken(int place) {
            for (int i = 0; i < shopCount; i++) {
                Shop shop = shopAt(i);
                if (shop != null && shop.isOpen() && shop.place == place) return true;
            }
            return false;
        }

        /** The shop in whose land a place is, or NONE. */
        private int landHolder(int place) {
            int holder = NONE;
            int least = 0;
            for (int i = 0; i < shopCount; i++) {
                Shop shop = shopAt(i);
                if (shop == null || !shop.isOpen() || shop.reach == 0) continue;
                int far = town.wayBetween(place, shop.place);
                if (far < 0 || far > shop.reach) continue;
                if (holder == NONE || far < least) {
                    holder = i;
                    least = far;
                }
            }
            return holder;
        }

        private boolean isBarred(int place, int owner) {
            Shop holder = shopAt(landHolder(place));
            return holder != null && holder.owner != owner;
        }

        private int landSize(int shop) {
            int size = 0;
            for (int place = 0; place < town.placeCount; place++) {
                if (landHolder(place) == shop) size++;
            }
            return size;
        }

        private int openCount() {
            int open = 0;
            for (int i = 0; i < shopCount; i++) {
                Shop shop = shopAt(i);
                if (shop != null && shop.isOpen()) open++;
            }
            return open;
        }

        private int openOn(int owner, int day) {
            int open = 0;
            for (int i = 0; i < shopCount; i++) {
                Shop shop = shopAt(i);
                if (shop != null && shop.owner == owner && shop.wasOpenOn(day)) open++;
            }
            return open;
        }

        private int runningNotices() {
            int running = 0;
            for (int i = 0; i < shopCount; i++) {
                Shop shop = shopAt(i);
                if (shop != null && shop.hasRunningNotice()) running++;
            }
            return running;
        }

        private void lapseNotices(int day) {
            for (int i = 0; i < shopCount; i++) {
                Shop shop = shopAt(i);
                if (shop == null || !shop.hasRunningNotice()) continue;
                if (day > shop.noticeLastDay) shop.shut(day, LAPSED);
            }
        }
    }

    /** Takings foretold: a stall for each shop under the shop's number, and behind them stalls of new ones. */
    private static final class Market {
        private final Town town;
        private final int[][] pulls = new int[MAX_STALLS][MAX_PLACES];
        private final int[] owners = new int[MAX_STALLS];
        private final int[] allPulls = new int[MAX_PLACES];
        private int stallCount;
        private int doorSpend = 10;

        private Market(Town town) {
            this.town = town;
        }

        private void fillFrom(Chain chain) {
            stallCount = 0;
            for (int p = 0; p < allPulls.length; p++) allPulls[p] = 0;
            for (int i = 0; i < chain.shopCount; i++) {
                Shop shop = chain.shopAt(i);
                if (shop == null) continue;
                // A closed shop keeps its number here, but likes of 0 pull nobody.
                addStall(shop.place, shop.isOpen() ? shop.like : 0, shop.owner);
            }
        }

        private void addStall(int place, int like, int owner) {
            if (stallCount < 0 || stallCount >= pulls.length) return;
            int[] row = pulls[stallCount];
            for (int p = 0; p < row.length && p < allPulls.length; p++) {
                row[p] = pullOf(like, town.wayBetween(p, place));
                allPulls[p] += row[p];
            }
            put(owners, stallCount, owner);
            stallCount++;
        }

        private void dropStall() {
            if (stallCount <= 0 || stallCount > pulls.length) return;
            stallCount--;
            int[] row = pulls[stallCount];
            for (int p = 0; p < row.length && p < allPulls.length; p++) allPulls[p] -= row[p];
        }

        private static int pullOf(int like, int far) {
            return far < 0 ? 0 : like * THOUSAND / (1 + far);
        }

        private int takingsOf(int stall) {
            if (stall < 0 || stall >= stallCount || stall >= pulls.length) return 0;
            int[] row = pulls[stall];
            int sum = 0;
            for (int p = 0; p < row.length && p < allPulls.length; p++) {
                int all = allPulls[p];
                if (row[p] == 0 || all <= 0) continue;
                long money = (long) town.doorsOf(p) * doorSpend;
                sum += (int) (money * row[p] / all);
            }
            return sum;
        }

        private int takingsOfOwner(int owner) {
            int sum = 0;
            for (int i = 0; i < stallCount; i++) {
                if (at(owners, i) == owner) sum += takingsOf(i);
            }
            return sum;
        }
    }

    /** Looks through all choices of sites for new shops, the first of them first. */
    private static final class SiteSearch {
        private final Town town;
        private final Chain chain;
        private final Market market;
        private final int[] free = new int[MAX_SITES];
        private final int[] before = new int[MAX_SHOPS];
        private final int[] chosen = new int[MAX_NEW];
        private final int[] found = new int[MAX_NEW];
        private int freeCount;
        private int foundCount;
        private int wanted;
        private int owner;
        private int like;
        private int harmLimit;
        private int bestSum;

        private SiteSearch(Town town, Chain chain, Market market) {
            this.town = town;
            this.chain = chain;
            this.market = market;
        }

        private int foundAt(int i) {
            return i >= 0 && i < foundCount ? at(found, i) : NONE;
        }

        private int findBest(int n, int who, int h) {
            wanted = n;
            owner = ownerIn(who);
            like = likeIn(who);
            harmLimit = h;
            bestSum = NOT;
            market.fillFrom(chain);
            for (int i = 0; i < before.length; i++) before[i] = market.takingsOf(i);
            collectFree();
            choose(0, 0);
            return bestSum;
        }

        private void collectFree() {
            freeCount = 0;
            for (int i = 0; i < town.siteCount; i++) {
                int place = town.siteAt(i);
                if (chain.isTaken(place) || chain.isBarred(place, owner)) continue;
                put(free, freeCount, place);
                freeCount++;
            }
        }

        private void choose(int depth, int from) {
            if (depth >= wanted || depth >= MAX_NEW) {
                weigh();
                return;
            }
            for (int i = from; i < freeCount; i++) {
                int place = at(free, i);
                put(chosen, depth, place);
                market.addStall(place, like, owner);
                choose(depth + 1, i + 1);
                market.dropStall();
            }
        }

        private void weigh() {
            if (harmsTooMuch()) return;
            int sum = market.takingsOfOwner(owner);
            if (sum <= bestSum) return;
            bestSum = sum;
            foundCount = wanted;
            for (int i = 0; i < wanted; i++) put(found, i, at(chosen, i));
        }

        private boolean harmsTooMuch() {
            for (int i = 0; i < chain.shopCount; i++) {
                Shop shop = chain.shopAt(i);
                if (shop == null || shop.owner == owner) continue;
                if (lossInThousandths(at(before, i), market.takingsOf(i)) > harmLimit) return true;
            }
            return false;
        }
    }

    private static final class Text {
        private final int kind;
        private final int fromDay;
        private final int madeDay;
        private final int length;
        private final int[] bytes = new int[MAX_TAPE];

        private Text(int kind, int fromDay, int madeDay, int[] tape, int length) {
            this.kind = kind;
            this.fromDay = fromDay;
            this.madeDay = madeDay;
            this.length = length;
            for (int i = 0; i < length; i++) put(bytes, i, at(tape, i));
        }
    }

    /** The tape, the terms made of it, and what they give. */
    private static final class Shelf {
        private final Chain chain;
        private final Reader reader = new Reader();
        private final Text[] texts = new Text[MAX_TERMS];
        private final int[] tape = new int[MAX_TAPE];
        private int textCount;
        private int tapeLength;

        private Shelf(Chain chain) {
            this.chain = chain;
        }

        private int addBytes(int n, int v) {
            if (tapeLength + n > MAX_TAPE) return FULL;
            for (int i = 0; i < n; i++) {
                put(tape, tapeLength, v >>> (8 * i) & 255);
                tapeLength++;
            }
            return tapeLength;
        }

        private int makeText(int kind, int fromDay, int today) {
            if (textCount < 0 || textCount >= texts.length) return FULL;
            int length = tapeLength;
            tapeLength = 0;
            reader.read(tape, length);
            if (reader.isStuck) return FAULTY - reader.pos;
            texts[textCount] = new Text(kind, fromDay, today, tape, length);
            textCount++;
            return textCount - 1;
        }

        private Text textAt(int number) {
            return number >= 0 && number < textCount && number < texts.length ? texts[number] : null;
        }

        /** The number of the terms in force, or NONE. */
        private int numberInForce(int kind, int day, int knownDay) {
            for (int i = textCount - 1; i >= 0; i--) {
                Text text = textAt(i);
                if (text == null || text.kind != kind) continue;
                if (text.madeDay <= knownDay && text.fromDay <= day) return i;
            }
            return NONE;
        }

        /** What terms give for a shop, read as of a day and that day's month, as it counts; 0 without any. */
        private int worth(int number, Shop shop, int day) {
            Text text = textAt(number);
            if (text == null) return 0;
            Month sheet = shop.monthAt(day / MONTH_DAYS);
            reader.takings = sheet == null ? 0 : sheet.takings;
            reader.flour = sheet == null ? 0 : sheet.flour;
            reader.month = day / MONTH_DAYS;
            reader.years = day < shop.openedDay ? 0 : (day - shop.openedDay) / YEAR_DAYS;
            reader.shops = chain.openOn(shop.owner, day);
            return Math.max(0, Math.min(MAX_COINS, reader.read(text.bytes, text.length)));
        }
    }

    /** Reads a text from left to right and reckons what it gives; stays on the first byte that cannot go on. */
    private static final class Reader {
        private static final int END = -1;

        private int[] bytes = new int[MAX_TAPE];
        private int length;
        private int pos;
        private boolean isStuck;
        private int takings;
        private int flour;
        private int month;
        private int years;
        private int shops;

        private int read(int[] text, int textLength) {
            bytes = text;
            length = textLength;
            pos = 0;
            isStuck = false;
            boolean isGiven = false;
            int given = 0;
            for (int band = 0; band <= textLength && !isStuck; band++) {
                int value = readSum(0);
                boolean holds = true;
                int sign = next();
                if (!isStuck && (sign == '<' || sign == '=' || sign == '>')) {
                    pos++;
                    holds = compare(value, sign, readSum(0));
                    expect(',');
                    value = readSum(0);
                }
                if (holds && !isGiven) {
                    given = value;
                    isGiven = true;
                }
                if (next() == END) break;
                expect(';');
            }
            return given;
        }

        private int next() {
            return pos >= 0 && pos < length && pos < bytes.length ? bytes[pos] : END;
        }

        private void expect(int sign) {
            if (isStuck) return;
            if (next() == sign) pos++;
            else isStuck = true;
        }

        private static boolean compare(int left, int sign, int right) {
            return sign == '<' ? left < right : sign == '>' ? left > right : left == right;
        }

        private int readSum(int depth) {
            int sum = readProduct(depth);
            for (int i = 0; i < length && !isStuck; i++) {
                int sign = next();
                if (sign != '+' && sign != '-') break;
                pos++;
                int part = readProduct(depth);
                sum = sign == '+' ? sum + part : sum - part;
            }
            return sum;
        }

        private int readProduct(int depth) {
            int product = readOperand(depth);
            for (int i = 0; i < length && !isStuck; i++) {
                int sign = next();
                if (sign != '*' && sign != '/') break;
                pos++;
                int part = readOperand(depth);
                product = sign == '*' ? product * part : divide(product, part);
            }
            return product;
        }

        private static int divide(int a, int b) {
            return b == 0 ? 0 : a / b;
        }

        private int readOperand(int depth) {
            if (isStuck) return 0;
            int sign = next();
            if (sign >= '0' && sign <= '9') return readNumber();
            if (sign == '(' && depth < MAX_OPEN) {
                pos++;
                int sum = readSum(depth + 1);
                expect(')');
                return sum;
            }
            return readName(sign);
        }

        private int readNumber() {
            int number = 0;
            for (int i = 0; i < MAX_DIGITS; i++) {
                int digit = next();
                if (digit < '0' || digit > '9') break;
                number = number * 10 + digit - '0';
                pos++;
            }
            return number;
        }

        private int readName(int sign) {
            pos++;
            switch (sign) {
                case 't': return takings;
                case 'f': return flour;
                case 'm': return month;
                case 'y': return years;
                case 's': return shops;
                default:
                    pos--;
                    isStuck = true;
                    return 0;
            }
        }
    }

    /** The common fund and how a sum of it is parted. */
    private static final class Fund {
        private final Chain chain;
        private final int[] rests = new int[MAX_SHOPS];
        private int coins;

        private Fund(Chain chain) {
            this.chain = chain;
        }

        private int partOut(int sum) {
            int gains = allGains();
            if (sum > coins || gains <= 0) return STATE;
            int left = sum - giveWholeParts(sum, gains);
            for (int i = 0; i < MAX_SHOPS && left > 0; i++) {
                giveToGreatestRest();
                left--;
            }
            coins -= sum;
            return coins;
        }

        private int allGains() {
            int gains = 0;
            for (int i = 0; i < chain.shopCount; i++) {
                Shop shop = chain.shopAt(i);
                if (shop != null) gains += shop.gain;
            }
            return gains;
        }

        /** Gives each shop its whole part, keeps the rests, and clears the gains; answers what was given. */
        private int giveWholeParts(int sum, int gains) {
            if (gains <= 0) return 0;
            int given = 0;
            for (int i = 0; i < chain.shopCount; i++) {
                Shop shop = chain.shopAt(i);
                if (shop == null) continue;
                long dividend = (long) sum * shop.gain;
                int part = (int) (dividend / gains);
                put(rests, i, (int) (dividend % gains));
                shop.share += part;
                shop.gain = 0;
                given += part;
            }
            return given;
        }

        private void giveToGreatestRest() {
            int greatest = 0;
            for (int i = 1; i < chain.shopCount; i++) {
                if (at(rests, i) > at(rests, greatest)) greatest = i;
            }
            Shop shop = chain.shopAt(greatest);
            if (shop == null) return;
            shop.share++;
            put(rests, greatest, 0);
        }
    }

    /** The list of loads, in order of the shops' numbers, and the latest packing of such a list into carts. */
    private static final class Packer {
        private final int[] shops = new int[MAX_LOADS];
        private final int[] loads = new int[MAX_LOADS];
        private final int[] chosen = new int[MAX_LOADS];
        private final int[] filled = new int[MAX_LOADS];
        private final int[] packedShops = new int[MAX_LOADS];
        private final int[] packedCarts = new int[MAX_LOADS];
        private int listed;
        private int packed;
        private int room;

        private boolean isListed(int shop) {
            for (int i = 0; i < listed; i++) {
                if (at(shops, i) == shop) return true;
            }
            return false;
        }

        private int addLoad(int shop, int weight) {
            if (listed >= MAX_LOADS) return FULL;
            int spot = listed;
            while (spot > 0 && at(shops, spot - 1) > shop) {
                put(shops, spot, at(shops, spot - 1));
                put(loads, spot, at(loads, spot - 1));
                spot--;
            }
            put(shops, spot, shop);
            put(loads, spot, weight);
            listed++;
            return listed;
        }

        private int pack(int r) {
            if (listed == 0) return STATE;
            room = r;
            int fewest = fewestCarts();
            if (fewest != NOT) keepPacking();
            listed = 0;
            return fewest;
        }

        private int fewestCarts() {
            for (int limit = 1; limit <= listed; limit++) {
                for (int c = 0; c < filled.length; c++) filled[c] = 0;
                if (canPack(0, 0, limit)) return limit;
            }
            return NOT;
        }

        /** Tries the lesser carts first, so the first packing comes first; begun carts have numbers below begun. */
        private boolean canPack(int i, int begun, int limit) {
            if (i >= listed || i >= MAX_LOADS) return true;
            int load = at(loads, i);
            for (int c = 0; c <= begun && c < limit; c++) {
                if (at(filled, c) + load > room) continue;
                put(filled, c, at(filled, c) + load);
                put(chosen, i, c);
                if (canPack(i + 1, Math.max(begun, c + 1), limit)) return true;
                put(filled, c, at(filled, c) - load);
            }
            return false;
        }

        private void keepPacking() {
            packed = listed;
            for (int i = 0; i < listed; i++) {
                put(packedShops, i, at(shops, i));
                put(packedCarts, i, at(chosen, i));
            }
        }

        private int cartOf(int shop) {
            for (int i = 0; i < packed; i++) {
                if (at(packedShops, i) == shop) return at(packedCarts, i);
            }
            return NONE;
        }
    }
}
