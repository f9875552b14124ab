/** Promises 13, 15 to 17: the short way, leaning, quarrels, order. */
public final class OrderTest {
    public static void main(String[] args) {
        shorter();
        leans();
        cycle();
        Due.finish();
    }

    private static void shorter() {
        TeaNight x = new TeaNight();
        Due.job(x, "set 20=1;set 17=2", 5);
        Due.no("no short way at first", x.way(0, 1));
        int[][] wrong = {{-1, 0, 0}, {61, 0, 0}, {0, -1, 0}, {0, 1001, 0}, {0, 0, -10000}, {0, 0, 10000}};
        for (int[] w : wrong) {
            Due.thrown("shorter", Due.ARGUMENT, () -> {
                x.shorter(0, w[0], w[1], w[2]);
                return null;
            });
        }
        Due.thrown("shorter", Due.INDEX, () -> {
            x.shorter(1, -1, 0, 0);
            return null;
        });
        Due.thrown("shorter", Due.INDEX, () -> {
            x.shorter(-1, 1, 0, 0);
            return null;
        });
        x.shorter(0, 60, 1000, 9999);
        x.shorter(0, 2, 3, -9999);
        x.old(20, 10000);
        Due.yes("way", x.way(0, 1));
        x.minutes(1);
        Due.same("left", x.look(0, 1), 1);
        x.minutes(1);
        Due.same("short", x.look(0, 0), 3);
        Due.same("old and so much", x.word(20), 1);
        Due.same("old and so much", x.word(17), -9999);
        Due.same("by numbers", x.tear(0, 0), -9999);
        x.again(0);
        x.shorter(0, 0, 0, 5);
        Due.same("it is still told to be short", x.look(0, 3), 1);
        x.minutes(1);
        Due.same("no minutes: it ends as it begins", x.look(0, 0), 3);
        Due.same("left", x.look(0, 1), 0);
        Due.same("with the number of now", x.word(17), 5);
        Due.no("no such way", x.way(0, 1));
        // the number above bounds
        TeaNight y = new TeaNight();
        Due.job(y, "set 20=1;set 17=2", 5);
        y.shorter(0, 1, 0, 1);
        y.old(20, 999999999);
        y.way(0, 1);
        y.minutes(1);
        Due.same("short and flooded", y.look(0, 0), 6);
        Due.same("what was ahead stays", y.word(17), 1);
        Due.same("not written", y.led(20, 480), -2);
    }

    private static void leans() {
        TeaNight x = new TeaNight();
        Due.job(x, "set 30=word 31", 1);
        Due.job(x, "set 32=1", 1);
        Due.job(x, "set 31=word 32+word 31", 1);
        Due.job(x, "set 31=1;set 30=word 31", 1);
        Due.same("leans", x.leans(0), 4 | 8);
        Due.same("leans", x.leans(1), 0);
        Due.same("not on itself", x.leans(2), 2 | 8);
        Due.same("not on what it has set", x.leans(3), 0);
        int[] order = {1, 3, 2, 0};
        for (int i = 0; i < 4; i++) {
            Due.same("order " + i, x.order(i), order[i]);
            Due.same("place", x.look(order[i], 9), i);
        }
        Due.same("order", x.order(4), -1);
        Due.same("order", x.order(-1), -1);
        Due.same("quarrel", x.quarrel(0), 3);
        Due.same("quarrel", x.quarrel(1), 12 * 2 + 3);
        Due.same("quarrel", x.quarrel(2), -1);
        Due.same("quarrel", x.quarrel(-1), -1);
        Due.thrown("leans", Due.INDEX, () -> x.leans(4));
        Due.thrown("leans", Due.INDEX, () -> x.leans(-1));
        Due.job(x, "set 32=2;set 30=3", 1);
        int[] quarrels = {3, 4, 12 + 4, 24 + 3, 36 + 4, -1};
        for (int i = 0; i < quarrels.length; i++) {
            Due.same("quarrel " + i, x.quarrel(i), quarrels[i]);
        }
        x.drop(4);
        Due.same("one that was dropped quarrels", x.quarrel(1), 4);
        Due.same("and is leant on", x.leans(2), 2 | 8 | 16);
    }

    private static void cycle() {
        TeaNight x = new TeaNight();
        Due.job(x, "set 20=1", 1);
        Due.job(x, "set 21=word 22", 1);
        Due.same("order", x.order(0), 0);
        Due.same("order", x.order(1), 1);
        x.image();
        Due.job(x, "set 22=word 21", 1);
        Due.same("no order", x.order(0), -1);
        Due.same("no place", x.look(0, 9), -1);
        Due.same("no night with two", x.beside(true), -1);
        x.minutes(10);
        Due.same("the first runs", x.look(0, 0), 2);
        Due.same("the second waits", x.look(1, 0), 0);
        x.way(2, 2);
        x.minutes(3);
        Due.same("by hand whatever it leans on", x.look(2, 0), 4);
        x.minutes(1);
        Due.same("then the second", x.look(1, 0), 2);
        x.back();
        Due.same("order is back", x.order(1), 1);
    }
}
