/** The edges of wants, ovens, vans, cost and wages: the document's ==== 5. */
public final class EdgeShopTest {
    private static final int TOP = 999999999;
    private static final int NONE = -1;

    public static void main(String[] args) {
        atMostAHundred();
        latestFour();
        roundedDown();
        weatherAboveAndBelow();
        zeroAtLeast();
        span();
        farRings();
        batches();
        ovens();
        belowZero();
        loads();
        costs();
        penniesOver();
        nobodyWants();
        greatCosts();
        hours();
        atMostTwenty();
        altered();
        paidOnce();
        Due.finish();
    }

    private static void wants(TeaNight x, int... weatherAndNumber) {
        for (int i = 0; i + 1 < weatherAndNumber.length; i += 2) {
            x.wanted(2, 1, 3, weatherAndNumber[i], weatherAndNumber[i + 1]);
        }
    }

    /** Foretold of some told wants of weather and number, for a weather. */
    private static void foretold(int want, int weather, int... weatherAndNumber) {
        TeaNight x = new TeaNight();
        x.day(3, weather);
        wants(x, weatherAndNumber);
        Due.same("foretold for weather " + weather, x.foretell(2, 1, 0), want);
        Due.same("of the latest", x.foretell(2, 1, 3), Math.min(4, weatherAndNumber.length / 2));
    }

    // "what shops wanted is told for earlier nights (at most 100)"
    private static void atMostAHundred() {
        TeaNight x = new TeaNight();
        x.day(3, 0);
        for (int i = 1; i <= 99; i++) {
            Due.same("telling", x.wanted(0, 0, 0, 0, 0), i);
        }
        Due.same("the 100th", x.wanted(2, 1, 3, 0, 50), 100);
        Due.same("it is told", x.foretell(2, 1, 0), 50);
        Due.same("a 101st", x.wanted(2, 1, 3, 0, 70), NONE);
        Due.same("tellings", x.count(11), 100);
        Due.same("it is not told", x.foretell(2, 1, 0), 50);
        Due.same("nor how many", x.foretell(2, 1, 3), 1);
        Edge.due("a wrong 101st", x, Due.ARGUMENT, y -> y.wanted(2, 1, 7, 0, 0));
        Edge.due("a 101st of no shop", x, Due.INDEX, y -> y.wanted(4, 1, 3, 0, 0));
        Due.same("the first of all are told still", x.foretell(0, 0, 3), NONE + 1);
        x.day(0, 0);
        Due.same("of their day", x.foretell(0, 0, 3), 4);
    }

    // "of the latest 4 told of that shop, good and DAY"
    private static void latestFour() {
        foretold(1000, 0, 0, 1000);
        foretold(1005, 0, 0, 1000, 0, 1010);
        foretold(1010, 0, 0, 1000, 0, 1010, 0, 1020);
        foretold(1015, 0, 0, 1000, 0, 1010, 0, 1020, 0, 1030);
        foretold(1025, 0, 0, 1000, 0, 1010, 0, 1020, 0, 1030, 0, 1040);
        foretold(1035, 0, 0, 99999, 9, 0, 0, 1020, 0, 1030, 0, 1040, 0, 1050);
        TeaNight x = new TeaNight();
        x.day(3, 0);
        wants(x, 0, 10);
        x.wanted(1, 1, 3, 0, 99999);
        x.wanted(3, 1, 3, 0, 99999);
        x.wanted(2, 0, 3, 0, 99999);
        x.wanted(2, 2, 3, 0, 99999);
        x.wanted(2, 1, 2, 0, 99999);
        x.wanted(2, 1, 4, 0, 99999);
        Due.same("no other shop, good or day", x.foretell(2, 1, 0), 10);
        Due.same("one", x.foretell(2, 1, 3), 1);
        x.day(4, 0);
        Due.same("of another day", x.foretell(2, 1, 0), 99999);
        x.day(5, 0);
        Due.same("of a day without any", x.foretell(2, 1, 0), NONE);
        for (int shop = 0; shop < 4; shop++) {
            for (int good = 0; good < 4; good++) {
                x.wanted(shop, good, 6, 0, 10 * shop + good);
            }
        }
        x.day(6, 0);
        for (int shop = 0; shop < 4; shop++) {
            for (int good = 0; good < 4; good++) {
                Due.same("each shop and good", x.foretell(shop, good, 0), 10 * shop + good);
            }
        }
    }

    // "the mean, rounded down"
    private static void roundedDown() {
        foretold(0, 0, 0, 0, 0, 1);
        foretold(0, 0, 0, 0, 0, 0, 0, 2);
        foretold(1, 0, 0, 1, 0, 1, 0, 1, 0, 4);
        foretold(2, 0, 0, 2, 0, 2, 0, 3);
        foretold(99999, 0, 0, 99999, 0, 99999, 0, 99999, 0, 99999);
        foretold(99998, 0, 0, 99999, 0, 99999, 0, 99999, 0, 99998);
    }

    // "and 2 for each that the WEATHER is above their mean WEATHER (rounded down; less likewise)"
    private static void weatherAboveAndBelow() {
        foretold(100, 5, 5, 100);
        foretold(102, 6, 5, 100);
        foretold(98, 4, 5, 100);
        foretold(118, 9, 0, 100);
        foretold(82, 0, 9, 100);
        // mean weather 9 / 2, 5 / 3, 7 / 4: 4, 1, 1
        foretold(100, 4, 4, 100, 5, 100);
        foretold(102, 5, 4, 100, 5, 100);
        foretold(100, 1, 1, 100, 2, 100, 2, 100);
        foretold(102, 2, 1, 100, 2, 100, 2, 100);
        foretold(98, 0, 1, 100, 2, 100, 2, 100, 2, 100);
        foretold(98, 3, 3, 100, 4, 100, 4, 100, 5, 100);
    }

    // "0 at least"
    private static void zeroAtLeast() {
        foretold(0, 0, 9, 18);
        foretold(1, 0, 9, 19);
        foretold(0, 0, 9, 17);
        foretold(0, 0, 9, 0);
        foretold(18, 9, 0, 0);
    }

    // "SPAN: the least and the greatest of these 4; without any NONE"; "(3: 0)"
    private static void span() {
        TeaNight x = new TeaNight();
        x.day(3, 0);
        int[] none = {NONE, NONE, NONE, 0};
        for (int what = 0; what < 4; what++) {
            Due.same("without any, what " + what, x.foretell(2, 1, what), none[what]);
        }
        TeaNight y = new TeaNight();
        y.day(3, 9);
        wants(y, 8, 100, 6, 50);
        for (int i = 0; i < 3; i++) {
            Due.same("asked as often as may be", y.foretell(2, 1, 0), 79);
            Due.same("none of another", y.foretell(1, 1, 0), NONE);
            Due.same("least", y.foretell(2, 1, 1), 50);
            Due.same("none of another", y.foretell(1, 1, 2), NONE);
            Due.same("greatest", y.foretell(2, 1, 2), 100);
        }
        int[][] told = {{0, 7}, {0, 3}, {0, 9}, {0, 5}, {0, 6}, {0, 99999}, {0, 0}, {0, 1}};
        int[][] want = {{7, 7, 1}, {3, 7, 2}, {3, 9, 3}, {3, 9, 4}, {3, 9, 4}, {5, 99999, 4}, {0, 99999, 4}, {0, 99999, 4}};
        for (int i = 0; i < told.length; i++) {
            wants(x, told[i]);
            for (int what = 1; what < 4; what++) {
                Due.same("what " + what + " of " + (i + 1), x.foretell(2, 1, what), want[i][what - 1]);
            }
        }
        wants(x, 0, 2, 0, 3, 0, 4);
        Due.same("the least of these 4", x.foretell(2, 1, 1), 1);
        Due.same("the greatest of these 4", x.foretell(2, 1, 2), 4);
    }

    private static void far(boolean want, int rung, int... numbers) {
        TeaNight x = new TeaNight();
        x.day(3, 0);
        for (int n : numbers) {
            x.wanted(2, 1, 3, 0, n);
        }
        x.ring(2, 1, rung);
        Due.same("far of " + rung, x.far(2, 1) ? 1 : 0, want ? 1 : 0);
    }

    // "FAR: a ring that is below half of the least (rounded down), or above twice the greatest; not without any."
    private static void farRings() {
        far(false, 0);
        far(false, 99999);
        far(true, 4, 10);
        far(false, 5, 10);
        far(false, 20, 10);
        far(true, 21, 10);
        far(true, 4, 11);
        far(false, 5, 11);
        far(false, 22, 11);
        far(true, 23, 11);
        far(false, 0, 1);
        far(false, 2, 1);
        far(true, 3, 1);
        far(false, 0, 0);
        far(true, 1, 0);
        far(true, 0, 2);
        far(false, 1, 2);
        far(false, 5, 10, 30);
        far(true, 4, 30, 10);
        far(false, 60, 10, 30);
        far(true, 61, 30, 10);
        far(false, 99999, 99999);
        far(false, 99999, 50000);
        far(true, 99999, 49999);
        // of the latest 4 alone
        far(true, 4, 1, 10, 10, 10, 10);
        far(true, 21, 99999, 10, 10, 10, 10);
        TeaNight x = new TeaNight();
        x.wanted(0, 0, 0, 0, 10);
        Due.yes("not rung: 0", x.far(0, 0));
        x.tell(0, 10);
        Due.no("told", x.far(0, 0));
        x.tell(0, -1);
        Due.yes("told below 0", x.far(0, 0));
        x.wanted(1, 0, 0, 0, 1);
        Due.no("0 is not below half of 1", x.far(1, 0));
        x.tell(4, -1);
        Due.yes("a word below 0 is, as it is", x.far(1, 0));
        x.day(1, 0);
        x.tell(0, 99999);
        x.tell(4, 99999);
        Due.no("without any of the day", x.far(0, 0));
        Due.no("without any of the shop", x.far(1, 0));
    }

    // "as many batches (the number by BATCH, rounded up) times its HEAT"
    private static void batches() {
        int[][] all = {{0, 10, 7, 0}, {1, 10, 7, 7}, {9, 10, 7, 7}, {10, 10, 7, 7}, {11, 10, 7, 14}, {20, 10, 7, 14}, {21, 10, 7, 21},
            {5, 1, 1, 5}, {9999, 9999, 100, 100}, {10000, 9999, 100, 200}, {99999, 9999, 1, 11}, {99999, 1, 100, 9999900}};
        for (int[] b : all) {
            TeaNight x = new TeaNight();
            x.good(3, b[1], b[2], 1, 0);
            x.ring(1, 3, b[0]);
            Due.same(b[0] + " by " + b[1], x.fill(false), b[3]);
        }
        TeaNight x = new TeaNight();
        x.good(0, 10, 1, 1, 0);
        for (int shop = 0; shop < 4; shop++) {
            x.ring(shop, 0, 5);
        }
        Due.same("all that the shops want together", x.fill(false), 2);
    }

    private static void end(long want, int... minutes) {
        TeaNight x = new TeaNight();
        for (int good = 0; good < 4; good++) {
            x.ring(good, good, minutes[good]);
        }
        Due.same("ovens' end", x.fill(false), want);
    }

    // "each GOOD goes to one OVEN, one behind the other: OVENS' END: the least minute at which all are done, of all ways"
    private static void ovens() {
        end(0, 0, 0, 0, 0);
        end(9, 9, 0, 0, 0);
        end(9, 0, 0, 0, 9);
        end(7, 7, 7, 7, 0);
        end(14, 7, 7, 7, 7);
        end(7, 3, 4, 7, 7);
        end(7, 7, 3, 7, 4);
        end(8, 8, 3, 4, 4);
        end(5, 1, 2, 3, 5);
        end(10, 6, 7, 10, 4);
        end(99999, 99999, 1, 99998, 99999);
    }

    // "(its WORDS 0 to 15 as they are; below 0 counts 0)"
    private static void belowZero() {
        TeaNight x = new TeaNight();
        x.fleet(0, 0, 0, 100, 100);
        x.tell(0, -1);
        Due.same("ovens", x.fill(false), 0);
        Due.same("vans", x.fill(true), 0);
        Due.same("cost", x.cost(0), 0);
        x.tell(4, 10);
        Due.same("each shop's own", x.fill(false), 10);
        Due.same("each shop's own", x.fill(true), 10);
        Due.same("all of the coin", x.cost(0), 200);
        x.tell(8, -TOP);
        Due.same("none is taken from the others", x.fill(false), 10);
        Due.same("none is taken from the others", x.fill(true), 10);
        x.tell(5, -10);
        Due.same("nor from another good", x.fill(true), 10);
        x.tell(16, 500);
        Due.same("word 16 is of no shop", x.fill(true), 10);
        x.tell(15, 30);
        Due.same("word 15 is", x.fill(true), 30);
    }

    private static void over(long want, int[] rooms, int... loads) {
        TeaNight x = new TeaNight();
        x.fleet(rooms[0], rooms[1], rooms[2], 0, 0);
        for (int shop = 0; shop < 4; shop++) {
            x.ring(shop, 3 - shop, loads[shop]);
        }
        Due.same("loads", x.fill(true), want);
    }

    // "all that a SHOP wants goes in one VAN: LOADS: the least that the fullest VAN has more than its ROOM (0 at least), of all ways"
    private static void loads() {
        over(0, new int[] {0, 0, 0}, 0, 0, 0, 0);
        over(0, new int[] {10, 0, 0}, 10, 0, 0, 0);
        over(1, new int[] {9, 0, 0}, 10, 0, 0, 0);
        over(0, new int[] {0, 0, 10}, 10, 0, 0, 0);
        over(0, new int[] {0, 11, 0}, 0, 10, 0, 0);
        over(0, new int[] {100, 100, 100}, 70, 30, 60, 100);
        over(0, new int[] {100, 60, 100}, 70, 30, 60, 100);
        over(1, new int[] {99, 60, 100}, 70, 30, 60, 100);
        over(0, new int[] {100000000, 0, 0}, 99999, 99999, 99999, 99999);
        over(99999, new int[] {0, 0, 99999}, 99999, 99999, 99999, 99999);
        over(99999, new int[] {0, 99999, 99999}, 99999, 99999, 99999, 99999);
        over(0, new int[] {99999, 99999, 199998}, 99999, 99999, 99999, 99999);
        over(1, new int[] {99999, 99999, 199997}, 99999, 99999, 99999, 99999);
        over(0, new int[] {101, 101, 101}, 70, 30, 60, 100);
        over(0, new int[] {100000000, 100000000, 100000000}, 0, 0, 0, 0);
        over(0, new int[] {100000000, 100000000, 100000000}, 99999, 99999, 99999, 99999);
        over(0, new int[] {0, 0, 4 * 99999}, 99999, 99999, 99999, 99999);
        over(1, new int[] {0, 0, 4 * 99999 - 1}, 99999, 99999, 99999, 99999);
        over(0, new int[] {0, 4 * 99999, 0}, 99999, 99999, 99999, 99999);
        over(0, new int[] {3 * 99999, 99998, 0}, 99998, 99999, 99999, 99999);
        over(0, new int[] {3 * 99999, 0, 99998}, 99999, 99999, 99999, 99998);
        // what the others have free does not help
        over(5, new int[] {15, 2, 2}, 10, 10, 0, 0);
        TeaNight x = new TeaNight();
        x.good(0, 1, 1, 100, 0);
        x.good(1, 1, 1, 3, 0);
        x.ring(2, 0, 2);
        x.ring(2, 1, 5);
        Due.same("by the weight of each good", x.fill(true), 215);
        x.fleet(0, 214, 0, 0, 0);
        Due.same("one more than its room", x.fill(true), 1);
    }

    // "its PRICE by piece, times the number, and its part of the oven's coin (by minutes) and of the vans' coin (by weight)"
    private static void costs() {
        TeaNight x = new TeaNight();
        x.good(0, 10, 3, 2, 7);
        x.good(1, 1, 1, 1, 0);
        x.ring(0, 0, 15);
        x.ring(1, 0, 6);
        Due.same("by piece alone", x.cost(0), 147);
        x.fleet(0, 0, 0, 1000, 0);
        Due.same("alone: all of the oven's coin", x.cost(0), 1147);
        x.fleet(0, 0, 0, 0, 1000);
        Due.same("alone: all of the vans' coin", x.cost(0), 1147);
        // minutes 9 and 1, weights 42 and 1
        x.ring(0, 1, 1);
        x.fleet(0, 0, 0, 1000, 0);
        Due.same("9 of 10", x.cost(0), 147 + 900);
        Due.same("1 of 10", x.cost(1), 100);
        x.fleet(0, 0, 0, 0, 43000);
        Due.same("42 of 43", x.cost(0), 147 + 42000);
        Due.same("1 of 43", x.cost(1), 1000);
        x.good(0, 9999, 3, 2, 9999);
        Due.same("the greatest price", x.cost(0), 21 * 9999 + 42000);
    }

    // "each part rounded down, the rest, penny by penny, to the GOODS of the least numbers that have any"
    private static void penniesOver() {
        for (int coin = 0; coin <= 9; coin++) {
            TeaNight x = new TeaNight();
            x.fleet(0, 0, 0, coin, 0);
            for (int good = 0; good < 4; good++) {
                x.ring(good, good, 5);
            }
            for (int good = 0; good < 4; good++) {
                Due.same("of " + coin + " by four", x.cost(good), coin / 4 + (good < coin % 4 ? 1 : 0));
            }
            x.fleet(0, 0, 0, 0, coin);
            x.ring(0, 0, 0);
            x.ring(2, 2, 0);
            Due.same("none for one that has none", x.cost(0), 0);
            Due.same("the first that has any", x.cost(1), coin / 2 + coin % 2);
            Due.same("none for one that has none", x.cost(2), 0);
            Due.same("the other", x.cost(3), coin / 2);
        }
        TeaNight x = new TeaNight();
        // of 10 by 1, 1, 98: 0.1, 0.1 and 9.8
        x.fleet(0, 0, 0, 10, 0);
        x.ring(0, 1, 1);
        x.ring(0, 2, 1);
        x.ring(0, 3, 98);
        Due.same("0 and one penny", x.cost(1), 1);
        Due.same("0", x.cost(2), 0);
        Due.same("9", x.cost(3), 9);
        x.fleet(0, 0, 0, 1, 1);
        Due.same("the only penny, twice", x.cost(1), 2);
        Due.same("none", x.cost(2), 0);
        Due.same("none", x.cost(3), 0);
    }

    // "0 for one that nobody wants"
    private static void nobodyWants() {
        TeaNight x = new TeaNight();
        x.fleet(0, 0, 0, 1000000, 1000000);
        for (int good = 0; good < 4; good++) {
            x.good(good, 1, 100, 100, 9999);
            Due.same("nobody wants any", x.cost(good), 0);
        }
        x.ring(0, 3, 1);
        for (int good = 0; good < 3; good++) {
            Due.same("nobody wants that", x.cost(good), 0);
        }
        Due.same("one piece", x.cost(3), 9999 + 2000000);
        x.ring(0, 3, 0);
        Due.same("nobody wants it now", x.cost(3), 0);
        x.tell(3, -5);
        Due.same("less than nobody", x.cost(3), 0);
    }

    private static void greatCosts() {
        TeaNight x = new TeaNight();
        for (int word = 0; word < 16; word++) {
            x.tell(word, TOP);
        }
        for (int good = 0; good < 4; good++) {
            x.good(good, 1, 100, 100, 9999);
        }
        x.fleet(100000000, 100000000, 100000000, 1000000, 1000000);
        Due.same("ovens", x.fill(false), 8L * TOP * 100);
        Due.same("vans", x.fill(true), 8L * TOP * 100 - 100000000);
        Due.same("cost", x.cost(2), 4L * TOP * 9999 + 500000);
    }

    // "hours times pence, hours above 40 half as much again (rounded down for the whole)"
    private static void hours() {
        int[][] all = {{0, 999, 0}, {1, 1, 1}, {39, 7, 273}, {40, 7, 280}, {41, 7, 290}, {42, 7, 301}, {41, 1, 41}, {42, 1, 43},
            {43, 1, 44}, {44, 1, 46}, {45, 11, 522}, {99, 999, 128371}, {99, 0, 0}, {0, 0, 0}, {40, 999, 39960}, {99, 1, 128}};
        for (int[] p : all) {
            TeaNight x = new TeaNight();
            x.worker(p[0], p[1]);
            Due.same("pay of " + p[0] + " by " + p[1], x.pay(0, 0), p[2]);
        }
    }

    // "a worker (at most 20)"
    private static void atMostTwenty() {
        TeaNight x = new TeaNight();
        for (int i = 0; i < 20; i++) {
            Edge.due("no such worker yet", x, Due.INDEX, y -> y.pay(y.count(9), 0));
            Due.same("worker", x.worker(i, i), i);
            Due.same("workers", x.count(9), i + 1);
        }
        Edge.due("a 21st", x, Due.UNSUPPORTED, y -> y.worker(1, 1));
        Edge.due("a wrong 21st", x, Due.ARGUMENT, y -> y.worker(1, 1000));
        Due.same("workers", x.count(9), 20);
        for (int i = 0; i < 20; i++) {
            Due.same("pay", x.pay(i, 0), i * i);
            Due.same("hours", x.pay(i, 1), i);
        }
        Due.yes("the 20th altered", x.alter(19, 0, 0));
        Edge.due("a 21st altered", x, Due.INDEX, y -> y.alter(20, 0, 0));
        Edge.due("the pay of a 21st", x, Due.INDEX, y -> y.pay(20, 0));
    }

    // "whether they were other ones (if not, nothing is told, the HAND neither)"
    private static void altered() {
        TeaNight x = new TeaNight();
        x.worker(40, 10);
        x.worker(40, 10);
        see(x, 0, 400, 40, NONE, 0);
        Due.no("the same hours", x.alter(0, 40, 5));
        see(x, 0, 400, 40, NONE, 0);
        Due.yes("one more", x.alter(0, 41, 0));
        see(x, 0, 415, 41, 0, 1);
        Due.no("the same hours", x.alter(0, 41, 9));
        see(x, 0, 415, 41, 0, 1);
        Due.yes("back", x.alter(0, 40, 9));
        see(x, 0, 400, 40, 9, 2);
        Due.yes("none", x.alter(0, 0, 9));
        see(x, 0, 0, 0, 9, 3);
        Due.yes("the most", x.alter(0, 99, 1));
        see(x, 0, 1285, 99, 1, 4);
        see(x, 1, 400, 40, NONE, 0);
    }

    private static void see(TeaNight x, int worker, int... want) {
        for (int what = 0; what < 4; what++) {
            Due.same("pay " + what, x.pay(worker, what), want[what]);
        }
    }

    // "They are PAID once, if there is a WAGE job, and all of them are beyond doubt."; "hours altered by a HAND (not once they are PAID)"
    private static void paidOnce() {
        TeaNight x = new TeaNight();
        x.worker(41, 1);
        x.worker(41, 1);
        Due.same("no wage job", x.wages(), NONE);
        Due.job(x, "set 16=1", 1);
        x.minutes(1);
        Due.same("no wage job still", x.wages(), NONE);
        Due.job(x, "set 17=1", 1, 0, 0, 0, true);
        Due.job(x, "set 18=1", 1, 0, 0, 0, true);
        Due.same("none of two", x.wages(), NONE);
        x.minutes(1);
        Due.same("one of two", x.wages(), NONE);
        Due.same("not paid", x.count(10), 0);
        Due.yes("so they may be altered", x.alter(0, 42, 1));
        x.minutes(1);
        x.drop(0);
        Due.same("43 and 41, each rounded down", x.wages(), 43 + 41);
        Due.same("paid", x.count(10), 1);
        Due.same("once", x.wages(), NONE);
        Edge.due("altered once paid", x, Due.STATE, y -> y.alter(0, 5, 5));
        Edge.due("the same hours once paid", x, Due.STATE, y -> y.alter(0, 42, 5));
        Edge.due("wrong hours once paid", x, Due.ARGUMENT, y -> y.alter(0, 100, 5));
        Edge.due("a wrong hand once paid", x, Due.ARGUMENT, y -> y.alter(0, 5, 10));
        Edge.due("no worker once paid", x, Due.INDEX, y -> y.alter(2, 100, 5));
        see(x, 0, 43, 42, 1, 1);
        x.again(1);
        Due.same("still once", x.wages(), NONE);
        Due.same("and paid", x.count(10), 1);
        // a job that is no WAGE job does not hold them up
        TeaNight y = new TeaNight();
        Due.job(y, "set 16=1", 1, 0, 0, 0, true);
        Due.job(y, "set 17=1;stop if 1<2", 1);
        y.minutes(2);
        Due.same("without workers", y.wages(), 0);
        Due.same("paid", y.count(10), 1);
        Due.same("once", y.wages(), NONE);
    }
}
