/** What an object shows when it is asked. Some calls of a view change the object, so each view wants an object of its own. */
final class Picture {
    private static final int[] ROOMS = {1, 5, 6, 8, 10, 14, 20, 50, 98};
    static final int VIEWS = 7 + ROOMS.length;

    private final BreadLands x;
    private final StringBuilder seen = new StringBuilder();
    private int calls;

    Picture(BreadLands x, int view) {
        this.x = x;
        switch (view) {
            case 0: shops(); break;
            case 1: streets(); break;
            case 2: months(); break;
            case 3: terms(); break;
            case 4: tape(); break;
            case 5: lists(); break;
            case 6: rules(); break;
            default: carts(ROOMS[view - 7]); break;
        }
    }

    String text() {
        return seen.toString();
    }

    int calls() {
        return calls;
    }

    private void add(int answer) {
        calls++;
        seen.append(answer).append(' ');
    }

    /** The first few numbers and the last one. */
    private static int[] some(int count, int few) {
        int[] numbers = new int[Math.min(count, few + 1)];
        for (int i = 0; i < numbers.length; i++) numbers[i] = i < few ? i : count - 1;
        return numbers;
    }

    private int[] places(int few) {
        return some(x.count(0), few);
    }

    private int[] shops(int few) {
        return some(x.count(1), few);
    }

    private void shops() {
        for (int what = 0; what <= 8; what++) add(x.count(what));
        for (int p : places(8)) add(x.whose(p));
        for (int s : shops(5)) {
            for (int what = 0; what <= 7; what++) add(x.ofShop(s, what));
            for (int what = 0; what <= 3; what++) add(x.ofNotice(s, what));
            add(x.foretold(s));
            add(x.owed(s));
        }
    }

    private void streets() {
        for (int a : places(7)) for (int b : places(7)) add(x.way(a, b));
        for (int a : places(7)) for (int b : places(7)) if (a < b) add(x.street(a, b, 99));
        add(x.place(7));
    }

    private void months() {
        for (int s : shops(3)) {
            for (int m : new int[] {0, 1, 2, 3, 4, 11, 331, 332}) {
                for (int what = 0; what <= 3; what++) add(x.led(s, m, what));
                add(x.isShort(s, m));
                add(x.under(s, m));
            }
        }
    }

    private void terms() {
        for (int kind = 0; kind <= 2; kind++) {
            for (int day : new int[] {0, 29, 30, 60, 9999}) {
                for (int k : new int[] {0, x.count(3), 9999}) add(x.inForce(kind, day, k));
            }
        }
        for (int t = 0; t < x.count(4); t++) {
            for (int s : shops(1)) for (int m = 0; m < 2; m++) add(x.gives(t, s, m));
        }
    }

    private void tape() {
        add(x.count(7));
        add(x.place(3));
        int number = x.terms(0, 0);
        add(number);
        for (int s : shops(1)) add(x.gives(number, s, 0));
        add(x.feed(4, 0x30303030));
    }

    private void lists() {
        for (int i = 0; i < 3; i++) add(x.found(i));
        for (int s : shops(10)) add(x.cart(s));
        for (int s : shops(4)) add(x.load(s, 1));
        add(x.carts(99));
        for (int s : shops(10)) add(x.cart(s));
        for (int p : places(10)) add(x.site(p));
        add(x.best(1, 1401, 1000));
        for (int i = 0; i < 3; i++) add(x.found(i));
    }

    /** The loads on the list cannot be asked for, but a change of one shows in the carts for one of several rooms. */
    private void carts(int room) {
        add(x.carts(room));
        for (int s : shops(10)) add(x.cart(s));
    }

    private void rules() {
        for (int s : shops(8)) add(x.gain(s, 0));
        add(x.rule(0, 1));
        add(x.rule(1, 1));
        for (int s : shops(3)) add(x.foretold(s));
        for (int s : shops(3)) add(x.notice(s));
        for (int p : places(8)) add(x.open(p, 1401));
        add(x.days(1));
        for (int s : shops(5)) add(x.ofShop(s, 4));
        for (int s : shops(3)) add(x.pay(s, 1));
        for (int s : shops(5)) add(x.close(s));
        for (int what = 0; what <= 8; what++) add(x.count(what));
    }
}
