import java.util.ArrayList;
import java.util.List;
import java.util.TreeMap;
import java.util.regex.Matcher;
import java.util.regex.Pattern;

/** The document again, written another way and without care for speed: what ModelTest holds BreadLands against. */
final class NaiveLands {
    private static final int NONE = -1, FULL = -2, STATE = -3, NOT = -4, NO_VALUE = -2000000000;
    private static final Pattern TEXT = textPattern();

    static final class Sheet {
        int takings, flour, cards, royalty, fund;
        int[] paid = new int[2];
    }

    static final class Store {
        int place, owner, like, from, to = -1, reach, gain, share, credit;
        TreeMap<Integer, Sheet> sheets = new TreeMap<>();
        List<int[]> notices = new ArrayList<>();

        boolean open() {
            return to == -1;
        }

        boolean openOn(int day) {
            return from <= day && (to == -1 || day < to);
        }

        int owed() {
            int sum = -credit;
            for (Sheet s : sheets.values()) sum += s.royalty + s.fund - s.paid[0] - s.paid[1];
            return sum;
        }
    }

    static final class Term {
        int kind, from, made;
        String text;
    }

    private final List<Integer> doors = new ArrayList<>();
    private final List<int[]> streets = new ArrayList<>();
    private final List<Store> stores = new ArrayList<>();
    private final List<Integer> sites = new ArrayList<>();
    private final List<Term> terms = new ArrayList<>();
    private final TreeMap<Integer, Integer> list = new TreeMap<>();
    private TreeMap<Integer, Integer> packing = new TreeMap<>();
    private List<Integer> found = new ArrayList<>();
    private String tape = "";
    private int day, spend = 10, bread = 4, spent;

    private static Pattern textPattern() {
        String sum = null;
        for (int depth = 0; depth <= 8; depth++) {
            String operand = sum == null ? "(?:\\d{1,6}|[tfmys])" : "(?:\\d{1,6}|[tfmys]|\\(" + sum + "\\))";
            sum = operand + "(?:[-+*/]" + operand + ")*";
        }
        String band = "(?:" + sum + "[<=>]" + sum + ",)?" + sum;
        return Pattern.compile(band + "(?:;" + band + ")*");
    }

    private boolean noPlace(int p) {
        return p < 0 || p >= doors.size();
    }

    private boolean noStore(int s) {
        return s < 0 || s >= stores.size();
    }

    private static boolean out(int v, int a, int b) {
        return v < a || v > b;
    }

    private static boolean badWho(int who) {
        return out(who, 1, 1499) || out(who % 100, 1, 99) || out(who / 100, 0, 14);
    }

    int place(int d) {
        if (out(d, 0, 999)) return NONE;
        if (doors.size() == 30) return FULL;
        doors.add(d);
        return doors.size() - 1;
    }

    int street(int a, int b, int length) {
        if (noPlace(a) || noPlace(b) || a == b || out(length, 1, 99)) return NONE;
        streets.add(new int[] {a, b, length});
        int least = length;
        for (int[] s : streets) {
            if ((s[0] == a && s[1] == b) || (s[0] == b && s[1] == a)) least = Math.min(least, s[2]);
        }
        return least;
    }

    private int[] waysFrom(int a) {
        int[] far = new int[doors.size()];
        java.util.Arrays.fill(far, 1000000);
        far[a] = 0;
        for (boolean changed = true; changed;) {
            changed = false;
            for (int[] s : streets) {
                for (int side = 0; side < 2; side++) {
                    int sum = far[s[side]] + s[2];
                    if (sum < far[s[1 - side]]) {
                        far[s[1 - side]] = sum;
                        changed = true;
                    }
                }
            }
        }
        return far;
    }

    int way(int a, int b) {
        if (noPlace(a) || noPlace(b)) return NONE;
        int far = waysFrom(a)[b];
        return far == 1000000 ? NOT : far;
    }

    int days(int n) {
        if (out(n, 1, 360) || day + n > 9999) return NONE;
        for (int i = 0; i < n; i++) {
            day++;
            for (Store s : stores) {
                int[] notice = running(s);
                if (notice != null && day == notice[1] + 1) {
                    notice[2] = 2;
                    notice[3] = day;
                    s.to = day;
                }
            }
        }
        return day;
    }

    private static int[] running(Store s) {
        if (s.notices.isEmpty()) return null;
        int[] last = s.notices.get(s.notices.size() - 1);
        return last[2] == 0 ? last : null;
    }

    int rule(int what, int v) {
        int was = what == 0 ? spend : bread;
        if (what == 0 && !out(v, 1, 99)) spend = v;
        else if (what == 1 && !out(v, 0, 99)) bread = v;
        else return NONE;
        return was;
    }

    private boolean taken(int p) {
        return stores.stream().anyMatch(s -> s.open() && s.place == p);
    }

    private int holder(int p) {
        int[] far = waysFrom(p);
        int holder = -1;
        for (int i = stores.size() - 1; i >= 0; i--) {
            Store s = stores.get(i);
            if (s.open() && s.reach > 0 && far[s.place] <= s.reach
                && (holder == -1 || far[s.place] <= far[stores.get(holder).place])) holder = i;
        }
        return holder;
    }

    private boolean barred(int p, int owner) {
        int holder = holder(p);
        return holder != -1 && stores.get(holder).owner != owner;
    }

    int open(int p, int who) {
        if (noPlace(p) || badWho(who)) return NONE;
        if (taken(p) || barred(p, who / 100)) return STATE;
        if (stores.size() == 40) return FULL;
        Store s = new Store();
        s.place = p;
        s.owner = who / 100;
        s.like = who % 100;
        s.from = day;
        stores.add(s);
        return stores.size() - 1;
    }

    int close(int shop) {
        if (noStore(shop)) return NONE;
        Store s = stores.get(shop);
        if (!s.open()) return STATE;
        int[] notice = running(s);
        if (notice != null) {
            notice[2] = 3;
            notice[3] = day;
        }
        s.to = day;
        return 1;
    }

    int reach(int shop, int v) {
        if (noStore(shop) || out(v, 0, 999)) return NONE;
        Store s = stores.get(shop);
        if (!s.open()) return STATE;
        int was = s.reach;
        s.reach = v;
        return was;
    }

    int whose(int p) {
        if (noPlace(p)) return NONE;
        return holder(p) == -1 ? NOT : holder(p);
    }

    int ofShop(int shop, int what) {
        if (noStore(shop) || out(what, 0, 7)) return NONE;
        Store s = stores.get(shop);
        int land = 0;
        for (int p = 0; p < doors.size(); p++) if (holder(p) == shop) land++;
        return new int[] {s.place, s.owner, s.like, s.from, s.to, s.reach, land, s.share}[what];
    }

    /** Takings of all open shops, and behind them of new ones (place, like). */
    private long[] takings(List<int[]> fresh) {
        long[] sums = new long[stores.size() + fresh.size()];
        for (int p = 0; p < doors.size(); p++) {
            int[] far = waysFrom(p);
            long[] pull = new long[sums.length];
            long all = 0;
            for (int i = 0; i < sums.length; i++) {
                boolean isNew = i >= stores.size();
                if (!isNew && !stores.get(i).open()) continue;
                int at = isNew ? fresh.get(i - stores.size())[0] : stores.get(i).place;
                int like = isNew ? fresh.get(i - stores.size())[1] : stores.get(i).like;
                if (far[at] == 1000000) continue;
                pull[i] = like * 1000L / (1 + far[at]);
                all += pull[i];
            }
            for (int i = 0; i < sums.length && all > 0; i++) sums[i] += (long) doors.get(p) * spend * pull[i] / all;
        }
        return sums;
    }

    private static long loss(long before, long after) {
        return before == 0 ? 0 : (long) Math.ceil((before - after) * 1000.0 / before - 1e-9);
    }

    int foretold(int shop) {
        if (noStore(shop)) return NONE;
        return stores.get(shop).open() ? (int) takings(List.of())[shop] : STATE;
    }

    int harm(int shop, int p, int like) {
        if (noStore(shop) || noPlace(p) || out(like, 1, 99)) return NONE;
        if (!stores.get(shop).open() || taken(p)) return STATE;
        return (int) loss(takings(List.of())[shop], takings(List.of(new int[] {p, like}))[shop]);
    }

    int site(int p) {
        if (noPlace(p) || sites.contains(p)) return NONE;
        if (sites.size() == 10) return FULL;
        sites.add(p);
        return sites.size();
    }

    int best(int n, int who, int h) {
        if (out(n, 1, 3) || badWho(who) || out(h, 0, 1000)) return NONE;
        long[] before = takings(List.of());
        long best = -1;
        String bestKey = "";
        List<Integer> bestPlaces = null;
        for (int set = 0; set < 1 << sites.size(); set++) {
            if (Integer.bitCount(set) != n) continue;
            List<int[]> fresh = new ArrayList<>();
            List<Integer> places = new ArrayList<>();
            StringBuilder key = new StringBuilder();
            boolean ok = true;
            for (int i = 0; i < sites.size(); i++) {
                if ((set >> i & 1) == 0) continue;
                ok &= !taken(sites.get(i)) && !barred(sites.get(i), who / 100);
                fresh.add(new int[] {sites.get(i), who % 100});
                places.add(sites.get(i));
                key.append(i);
            }
            if (!ok) continue;
            long[] after = takings(fresh);
            long sum = 0;
            for (int i = 0; i < after.length; i++) {
                if (i >= stores.size() || stores.get(i).owner == who / 100) sum += after[i];
                else if (stores.get(i).open() && loss(before[i], after[i]) > h) ok = false;
            }
            if (!ok) continue;
            if (sum > best || (sum == best && key.toString().compareTo(bestKey) < 0)) {
                best = sum;
                bestKey = key.toString();
                bestPlaces = places;
            }
        }
        if (bestPlaces == null) return NOT;
        found = bestPlaces;
        return (int) best;
    }

    int found(int i) {
        return out(i, 0, found.size() - 1) ? NONE : found.get(i);
    }

    int feed(int n, int v) {
        if (out(n, 1, 4)) return NONE;
        if (tape.length() + n > 120) return FULL;
        for (int i = 0; i < n; i++) tape += (char) (v >> 8 * i & 0xff);
        return tape.length();
    }

    int terms(int kind, int from) {
        if (out(kind, 0, 2) || out(from, 0, 9999)) return NONE;
        if (terms.size() == 20) return FULL;
        Term t = new Term();
        t.kind = kind;
        t.from = from;
        t.made = day;
        t.text = tape;
        tape = "";
        int fault = faultOf(t.text);
        if (fault >= 0) return -100 - fault;
        terms.add(t);
        return terms.size() - 1;
    }

    static int faultOf(String text) {
        if (TEXT.matcher(text).matches()) return -1;
        for (int i = 0; i < text.length(); i++) {
            Matcher m = TEXT.matcher(text.substring(0, i + 1));
            if (!m.matches() && !m.hitEnd()) return i;
        }
        return text.length();
    }

    int inForce(int kind, int d, int k) {
        if (out(kind, 0, 2) || out(d, 0, 9999) || out(k, 0, 9999)) return NONE;
        int last = NOT;
        for (int i = 0; i < terms.size(); i++) {
            Term t = terms.get(i);
            if (t.kind == kind && t.made <= k && t.from <= d) last = i;
        }
        return last;
    }

    private int worth(int term, Store s, int theDay) {
        if (term < 0) return 0;
        Sheet sheet = s.sheets.get(theDay / 30);
        int ages = 0;
        while (s.from + 360 * (ages + 1) <= theDay) ages++;
        int open = 0;
        for (Store other : stores) if (other.owner == s.owner && other.openOn(theDay)) open++;
        int[] names = {sheet == null ? 0 : sheet.takings, sheet == null ? 0 : sheet.flour, theDay / 30, ages, open};
        for (String band : terms.get(term).text.split(";")) {
            int comma = band.indexOf(',');
            if (comma >= 0) {
                int sign = 0;
                while ("<=>".indexOf(band.charAt(sign)) < 0) sign++;
                int order = Integer.compare(sum(band.substring(0, sign), names), sum(band.substring(sign + 1, comma), names));
                if ("<=>".indexOf(band.charAt(sign)) - 1 != order) continue;
            }
            int value = sum(band.substring(comma + 1), names);
            return value < 0 ? 0 : value > 1000000 ? 1000000 : value;
        }
        return 0;
    }

    /** Splits at the last sign outside of brackets: + and - ahead of * and /. */
    private static int sum(String s, int[] names) {
        for (String signs : new String[] {"+-", "*/"}) {
            int depth = 0;
            for (int i = s.length() - 1; i >= 0; i--) {
                char c = s.charAt(i);
                if (c == ')') depth++;
                if (c == '(') depth--;
                if (depth != 0 || signs.indexOf(c) < 0) continue;
                int a = sum(s.substring(0, i), names);
                int b = sum(s.substring(i + 1), names);
                if (c == '+') return a + b;
                if (c == '-') return a - b;
                if (c == '*') return a * b;
                return b == 0 ? 0 : (int) ((long) a / b);
            }
        }
        if (s.charAt(0) == '(') return sum(s.substring(1, s.length() - 1), names);
        int name = "tfmys".indexOf(s.charAt(0));
        return name >= 0 ? names[name] : Integer.parseInt(s);
    }

    int gives(int term, int shop, int month) {
        if (out(term, 0, terms.size() - 1) || noStore(shop) || out(month, 0, 332)) return NONE;
        return worth(term, stores.get(shop), 30 * month + 29);
    }

    int month(int shop, int month, int told, int flour, int cards) {
        if (noStore(shop) || out(month, 0, 332) || out(told, 0, 99999) || out(flour, 0, 9999) || out(cards, 0, 9999)) return NONE;
        Store s = stores.get(shop);
        int last = 30 * month + 29;
        if (s.sheets.containsKey(month) || day < last + 1 || !s.openOn(last)) return STATE;
        Sheet sheet = new Sheet();
        sheet.takings = told;
        sheet.flour = flour;
        sheet.cards = cards;
        s.sheets.put(month, sheet);
        sheet.royalty = worth(inForce(0, last, day), s, last);
        sheet.fund = worth(inForce(1, last, day), s, last);
        lead(s);
        return sheet.royalty + sheet.fund;
    }

    private void lead(Store s) {
        for (Sheet sheet : s.sheets.values()) {
            for (int what = 0; what < 2; what++) {
                int open = (what == 0 ? sheet.royalty : sheet.fund) - sheet.paid[what];
                int part = Math.min(open, s.credit);
                sheet.paid[what] += part;
                s.credit -= part;
            }
        }
        int[] notice = running(s);
        if (notice != null && s.owed() <= 0) {
            notice[2] = 1;
            notice[3] = day;
        }
    }

    private boolean isShort(Sheet s) {
        return s.takings < s.flour * bread || s.takings < s.cards;
    }

    int isShort(int shop, int month) {
        if (noStore(shop) || !stores.get(shop).sheets.containsKey(month)) return NONE;
        return isShort(stores.get(shop).sheets.get(month)) ? 1 : 0;
    }

    int under(int shop, int month) {
        if (noStore(shop) || out(month, 0, 332)) return NONE;
        return stores.get(shop).sheets.headMap(month, true).descendingMap().values().stream().limit(6)
            .filter(this::isShort).count() >= 3 ? 1 : 0;
    }

    int pay(int shop, int coins) {
        if (noStore(shop) || out(coins, 1, 1000000)) return NO_VALUE;
        stores.get(shop).credit += coins;
        lead(stores.get(shop));
        return owed(shop);
    }

    int owed(int shop) {
        return noStore(shop) ? NO_VALUE : stores.get(shop).owed();
    }

    int led(int shop, int month, int what) {
        if (noStore(shop) || !stores.get(shop).sheets.containsKey(month) || out(what, 0, 3)) return NONE;
        Sheet s = stores.get(shop).sheets.get(month);
        return new int[] {s.royalty, s.fund, s.paid[0], s.paid[1]}[what];
    }

    int notice(int shop) {
        if (noStore(shop)) return NONE;
        Store s = stores.get(shop);
        if (s.owed() <= 0 || running(s) != null || !s.open()) return STATE;
        int last = day + worth(inForce(2, day, day), s, day);
        s.notices.add(new int[] {day, last, 0, -1});
        return last;
    }

    int ofNotice(int shop, int what) {
        if (noStore(shop) || stores.get(shop).notices.isEmpty() || out(what, 0, 3)) return NONE;
        List<int[]> all = stores.get(shop).notices;
        return all.get(all.size() - 1)[what];
    }

    int gain(int shop, int v) {
        if (noStore(shop) || out(v, 0, 999)) return NONE;
        int was = stores.get(shop).gain;
        stores.get(shop).gain = v;
        return was;
    }

    private int fund() {
        int sum = -spent;
        for (Store s : stores) for (Sheet sheet : s.sheets.values()) sum += sheet.paid[1];
        return sum;
    }

    int spend(int sum) {
        if (out(sum, 1, 1000000)) return NONE;
        long all = 0;
        for (Store s : stores) all += s.gain;
        if (fund() < sum || all == 0) return STATE;
        List<long[]> rests = new ArrayList<>();
        int left = sum;
        for (int i = 0; i < stores.size(); i++) {
            Store s = stores.get(i);
            s.share += (int) ((long) sum * s.gain / all);
            left -= (int) ((long) sum * s.gain / all);
            rests.add(new long[] {(long) sum * s.gain % all, i});
        }
        rests.sort((a, b) -> a[0] != b[0] ? Long.compare(b[0], a[0]) : Long.compare(a[1], b[1]));
        for (int i = 0; i < left; i++) stores.get((int) rests.get(i)[1]).share++;
        for (Store s : stores) s.gain = 0;
        spent += sum;
        return fund();
    }

    int load(int shop, int load) {
        if (noStore(shop) || out(load, 1, 99) || list.containsKey(shop)) return NONE;
        if (list.size() == 10) return FULL;
        list.put(shop, load);
        return list.size();
    }

    int carts(int r) {
        if (out(r, 1, 99)) return NONE;
        if (list.isEmpty()) return STATE;
        List<Integer> shops = new ArrayList<>(list.keySet());
        int[] loads = list.values().stream().mapToInt(v -> v).toArray();
        list.clear();
        for (int l : loads) if (l > r) return NOT;
        int[][] best = {null};
        allPackings(loads, new int[loads.length], 0, r, best);
        packing = new TreeMap<>();
        for (int i = 0; i < loads.length; i++) packing.put(shops.get(i), best[0][i]);
        return cartsOf(best[0]);
    }

    private static int cartsOf(int[] packing) {
        int most = -1;
        for (int c : packing) most = Math.max(most, c);
        return most + 1;
    }

    /** Goes through all packings with carts numbered as they are begun and keeps the least by (carts, order). */
    private static void allPackings(int[] loads, int[] carts, int i, int r, int[][] best) {
        if (i == loads.length) {
            if (best[0] == null || cartsOf(carts) < cartsOf(best[0])
                || (cartsOf(carts) == cartsOf(best[0]) && java.util.Arrays.compare(carts, best[0]) < 0)) best[0] = carts.clone();
            return;
        }
        int begun = 0;
        for (int j = 0; j < i; j++) begun = Math.max(begun, carts[j] + 1);
        for (int c = begun; c >= 0; c--) {
            int sum = loads[i];
            for (int j = 0; j < i; j++) if (carts[j] == c) sum += loads[j];
            if (sum > r) continue;
            carts[i] = c;
            allPackings(loads, carts, i + 1, r, best);
        }
    }

    int cart(int shop) {
        return packing.getOrDefault(shop, NONE);
    }

    int count(int what) {
        if (out(what, 0, 8)) return NONE;
        int open = 0, running = 0;
        for (Store s : stores) {
            if (s.open()) open++;
            if (running(s) != null) running++;
        }
        return new int[] {doors.size(), stores.size(), open, day, terms.size(), sites.size(), fund(), tape.length(), running}[what];
    }
}
