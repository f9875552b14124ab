/** Promises 28 to 34: wants, foretelling, far rings, goods, the fleet, ovens, vans, cost. */
public final class ShopsTest {
    public static void main(String[] args) {
        wants();
        foretell();
        far();
        wrong();
        ovens();
        vans();
        everyWay();
        cost();
        Due.finish();
    }

    private static void wants() {
        TeaNight x = new TeaNight();
        int[][] index = {{4, 0, 0, 0, 0}, {-1, 0, 9, 0, 0}, {0, 4, 0, 0, 0}, {0, -1, 0, 0, 0}};
        int[][] argument = {{0, 0, 7, 0, 0}, {0, 0, -1, 0, 0}, {0, 0, 0, 10, 0}, {0, 0, 0, -1, 0}, {0, 0, 0, 0, -1}, {0, 0, 0, 0, 100000}};
        for (int i = 1; i <= 100; i++) {
            Due.same("wanted", x.wanted(3, 3, 6, 9, 99999), i);
        }
        Due.same("a 101st", x.wanted(0, 0, 0, 0, 0), -1);
        for (int[] a : index) {
            Due.thrown("wanted", Due.INDEX, () -> x.wanted(a[0], a[1], a[2], a[3], a[4]));
        }
        for (int[] a : argument) {
            Due.thrown("wanted", Due.ARGUMENT, () -> x.wanted(a[0], a[1], a[2], a[3], a[4]));
        }
        Due.same("tellings", x.count(11), 100);
        Due.same("not told", x.foretell(0, 0, 0), -1);
    }

    private static void foretell() {
        TeaNight x = new TeaNight();
        x.day(4, 2);
        for (int what = 0; what < 3; what++) {
            Due.same("none", x.foretell(1, 2, what), -1);
        }
        Due.same("none", x.foretell(1, 2, 3), 0);
        x.wanted(1, 2, 4, 5, 10);
        Due.same("3 less", x.foretell(1, 2, 0), 4);
        x.wanted(1, 2, 4, 2, 11);
        Due.same("mean 10, weather 3", x.foretell(1, 2, 0), 8);
        x.wanted(1, 2, 3, 9, 5000);
        x.wanted(2, 2, 4, 9, 5000);
        x.wanted(1, 1, 4, 9, 5000);
        x.wanted(1, 2, 4, 0, 3);
        x.wanted(1, 2, 4, 0, 50);
        Due.same("of 4", x.foretell(1, 2, 3), 4);
        Due.same("mean 18, weather 1", x.foretell(1, 2, 0), 20);
        Due.same("least", x.foretell(1, 2, 1), 3);
        Due.same("greatest", x.foretell(1, 2, 2), 50);
        x.wanted(1, 2, 4, 0, 0);
        Due.same("the latest 4 alone: mean 16, weather 0", x.foretell(1, 2, 0), 20);
        Due.same("least", x.foretell(1, 2, 1), 0);
        Due.same("of 4", x.foretell(1, 2, 3), 4);
        x.day(3, 0);
        Due.same("of another day", x.foretell(1, 2, 0), 4982);
        x.wanted(3, 3, 3, 9, 17);
        Due.same("0 at least", x.foretell(3, 3, 0), 0);
        Due.thrown("foretell", Due.INDEX, () -> x.foretell(4, 0, 4));
        Due.thrown("foretell", Due.INDEX, () -> x.foretell(-1, 0, 0));
        Due.thrown("foretell", Due.INDEX, () -> x.foretell(0, 4, 0));
        Due.thrown("foretell", Due.INDEX, () -> x.foretell(0, -1, 0));
        Due.thrown("foretell", Due.ELEMENT, () -> x.foretell(0, 0, 4));
        Due.thrown("foretell", Due.ELEMENT, () -> x.foretell(0, 0, -1));
    }

    private static void far() {
        TeaNight x = new TeaNight();
        x.ring(0, 1, 99999);
        Due.no("not without any", x.far(0, 1));
        x.wanted(0, 1, 0, 0, 11);
        x.wanted(0, 1, 0, 0, 20);
        int[] rung = {0, 4, 5, 11, 40, 41};
        boolean[] far = {true, true, false, false, false, true};
        for (int i = 0; i < rung.length; i++) {
            x.ring(0, 1, rung[i]);
            Due.same("far " + rung[i], x.far(0, 1) ? 1 : 0, far[i] ? 1 : 0);
        }
        x.day(1, 0);
        Due.no("of another day", x.far(0, 1));
        x.day(0, 0);
        Due.yes("not rung is 0", x.far(0, 1));
        Due.thrown("far", Due.INDEX, () -> x.far(4, 0));
        Due.thrown("far", Due.INDEX, () -> x.far(-1, 0));
        Due.thrown("far", Due.INDEX, () -> x.far(0, 4));
        Due.thrown("far", Due.INDEX, () -> x.far(0, -1));
    }

    private static void wrong() {
        TeaNight x = new TeaNight();
        int[][] goods = {{0, 0, 1, 1, 0}, {0, 10000, 1, 1, 0}, {0, 1, 0, 1, 0}, {0, 1, 101, 1, 0}, {0, 1, 1, 0, 0}, {0, 1, 1, 101, 0},
            {0, 1, 1, 1, -1}, {0, 1, 1, 1, 10000}, {4, 0, 1, 1, 0}, {-1, 1, 1, 1, 0}};
        for (int[] g : goods) {
            Due.thrown("good", g[0] == 0 ? Due.ARGUMENT : Due.INDEX, () -> {
                x.good(g[0], g[1], g[2], g[3], g[4]);
                return null;
            });
        }
        int[][] fleets = {{-1, 0, 0, 0, 0}, {100000001, 0, 0, 0, 0}, {0, -1, 0, 0, 0}, {0, 100000001, 0, 0, 0}, {0, 0, -1, 0, 0},
            {0, 0, 100000001, 0, 0}, {0, 0, 0, -1, 0}, {0, 0, 0, 1000001, 0}, {0, 0, 0, 0, -1}, {0, 0, 0, 0, 1000001}};
        for (int[] f : fleets) {
            Due.thrown("fleet", Due.ARGUMENT, () -> {
                x.fleet(f[0], f[1], f[2], f[3], f[4]);
                return null;
            });
        }
        x.good(3, 9999, 100, 100, 9999);
        x.fleet(100000000, 100000000, 100000000, 1000000, 1000000);
        Due.thrown("cost", Due.INDEX, () -> x.cost(4));
        Due.thrown("cost", Due.INDEX, () -> x.cost(-1));
    }

    private static void ovens() {
        TeaNight x = new TeaNight();
        Due.same("none wanted", x.fill(false), 0);
        x.good(0, 10, 7, 1, 0);
        x.good(1, 10, 5, 1, 0);
        x.good(2, 10, 4, 1, 0);
        x.good(3, 10, 3, 1, 0);
        x.ring(0, 0, 5);
        x.ring(1, 0, 5);
        Due.same("one batch", x.fill(false), 7);
        x.ring(1, 0, 6);
        Due.same("rounded up", x.fill(false), 14);
        x.ring(1, 0, 0);
        x.ring(0, 1, 10);
        x.ring(0, 2, 1);
        x.ring(0, 3, 9);
        Due.same("7, 5, 4 and 3", x.fill(false), 7);
        x.tell(1, 11);
        Due.same("7, 10, 4 and 3", x.fill(false), 10);
        x.tell(4, -50);
        Due.same("below 0 counts 0", x.fill(false), 10);
        for (int word = 0; word < 16; word++) {
            x.tell(word, 999999999);
        }
        for (int good = 0; good < 4; good++) {
            x.good(good, 1, 100, 100, 9999);
        }
        Due.same("great ones", x.fill(false), 2L * 4L * 999999999L * 100L);
    }

    private static void vans() {
        TeaNight x = new TeaNight();
        x.good(0, 1, 1, 10, 0);
        x.ring(0, 0, 4);
        x.ring(1, 0, 3);
        x.ring(2, 0, 2);
        x.ring(3, 0, 2);
        Due.same("no room: 40, 30 and 40", x.fill(true), 40);
        x.fleet(30, 20, 10, 0, 0);
        Due.same("70 in 30, 20 in 20, 20 in 10, or better", x.fill(true), 20);
        x.fleet(0, 0, 200, 0, 0);
        Due.same("all in the last", x.fill(true), 0);
        x.fleet(100000000, 0, 0, 0, 0);
        Due.same("0 at least", x.fill(true), 0);
        x.fleet(0, 0, 0, 0, 0);
        x.tell(1, 5);
        Due.same("each good by its weight", x.fill(true), 45);
        x.tell(1, -5);
        Due.same("below 0 counts 0", x.fill(true), 40);
        Due.same("not the ovens", x.fill(false), 11);
    }

    /** Loads of 1, 2, 4 and 8, and rooms that only one way fills. */
    private static void everyWay() {
        TeaNight x = new TeaNight();
        for (int shop = 0; shop < 4; shop++) {
            x.ring(shop, shop, 1 << shop);
        }
        for (int way = 0; way < 81; way++) {
            int[] room = new int[3];
            for (int shop = 0, digits = way; shop < 4; shop++, digits /= 3) {
                room[digits % 3] += 1 << shop;
            }
            x.fleet(room[0], room[1], room[2], 0, 0);
            Due.same("way " + way, x.fill(true), 0);
            if (room[way % 3] > 0) {
                room[way % 3]--;
                x.fleet(room[0], room[1], room[2], 0, 0);
                Due.same("one too little in way " + way, x.fill(true), 1);
            }
        }
    }

    private static void cost() {
        TeaNight x = new TeaNight();
        x.fleet(0, 0, 0, 100, 100);
        for (int good = 0; good < 4; good++) {
            Due.same("nobody wants it", x.cost(good), 0);
        }
        x.good(1, 1, 1, 1, 3);
        x.good(2, 1, 1, 1, 0);
        x.good(3, 1, 1, 1, 0);
        x.ring(0, 1, 10);
        x.ring(2, 2, 10);
        x.ring(3, 3, 10);
        Due.same("nobody wants it", x.cost(0), 0);
        Due.same("30 and 34 twice", x.cost(1), 98);
        Due.same("33 twice", x.cost(2), 66);
        Due.same("33 twice", x.cost(3), 66);
        x.fleet(0, 0, 0, 101, 0);
        Due.same("34", x.cost(1), 64);
        Due.same("34", x.cost(2), 34);
        Due.same("33", x.cost(3), 33);
        x.good(1, 3, 9, 1, 0);
        x.fleet(0, 0, 0, 100, 56);
        // minutes 36, 10, 10: 64, 17, 17 and two pennies; weights 10, 10, 10: 18 each and two pennies
        Due.same("by minutes and weight", x.cost(1), 65 + 19);
        Due.same("by minutes and weight", x.cost(2), 18 + 19);
        Due.same("by minutes and weight", x.cost(3), 17 + 18);
        x.good(2, 1, 1, 5, 0);
        Due.same("by weight 10, 50, 10", x.cost(2), 18 + 40);
        for (int word = 0; word < 16; word++) {
            x.tell(word, 999999999);
        }
        for (int good = 0; good < 4; good++) {
            x.good(good, 1, 100, 100, 9999);
        }
        x.fleet(0, 0, 0, 1000000, 999999);
        Due.same("great ones", x.cost(0), 4L * 999999999L * 9999L + 250000L + 250000L);
        Due.same("great ones", x.cost(3), 4L * 999999999L * 9999L + 250000L + 249999L);
    }
}
