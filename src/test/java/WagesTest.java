/** Promises 35 to 38: workers, altered hours, pay, wages. */
public final class WagesTest {
    public static void main(String[] args) {
        workers();
        alter();
        wages();
        Due.finish();
    }

    private static void workers() {
        TeaNight x = new TeaNight();
        int[][] wrong = {{-1, 0}, {100, 0}, {0, -1}, {0, 1000}};
        for (int[] w : wrong) {
            Due.thrown("worker", Due.ARGUMENT, () -> x.worker(w[0], w[1]));
        }
        for (int i = 0; i < 20; i++) {
            Due.same("worker", x.worker(39 + i, 999), i);
        }
        Due.thrown("a 21st", Due.UNSUPPORTED, () -> x.worker(0, 0));
        Due.thrown("a wrong 21st", Due.ARGUMENT, () -> x.worker(100, 0));
        Due.same("workers", x.count(9), 20);
        Due.same("39 hours", x.pay(0, 0), 39 * 999);
        Due.same("40 hours", x.pay(1, 0), 40 * 999);
        Due.same("41 hours", x.pay(2, 0), 41 * 999 + 499);
        Due.same("42 hours", x.pay(3, 0), 43 * 999);
        int[] first = {39 * 999, 39, -1, 0};
        for (int what = 0; what < 4; what++) {
            Due.same("pay " + what, x.pay(0, what), first[what]);
        }
        Due.thrown("pay", Due.INDEX, () -> x.pay(20, 4));
        Due.thrown("pay", Due.INDEX, () -> x.pay(-1, 0));
        Due.thrown("pay", Due.ELEMENT, () -> x.pay(0, 4));
        Due.thrown("pay", Due.ELEMENT, () -> x.pay(0, -1));
    }

    private static void alter() {
        TeaNight x = new TeaNight();
        x.worker(10, 5);
        int[][] wrong = {{-1, 0}, {100, 0}, {0, -1}, {0, 10}};
        for (int[] w : wrong) {
            Due.thrown("alter", Due.ARGUMENT, () -> x.alter(0, w[0], w[1]));
        }
        Due.thrown("alter", Due.INDEX, () -> x.alter(1, 100, 0));
        Due.thrown("alter", Due.INDEX, () -> x.alter(-1, 0, 0));
        Due.no("the same", x.alter(0, 10, 9));
        Due.same("no hand is told", x.pay(0, 2), -1);
        Due.yes("altered", x.alter(0, 99, 9));
        Due.no("the same", x.alter(0, 99, 8));
        Due.same("the hand", x.pay(0, 2), 9);
        Due.yes("altered", x.alter(0, 0, 0));
        int[] then = {0, 0, 0, 2};
        for (int what = 0; what < 4; what++) {
            Due.same("pay " + what, x.pay(0, what), then[what]);
        }
    }

    private static void wages() {
        TeaNight x = new TeaNight();
        x.worker(10, 5);
        x.worker(41, 3);
        Due.same("no wage job", x.wages(), -1);
        Due.job(x, "set 20=1", 1);
        x.minutes(1);
        Due.same("no wage job", x.wages(), -1);
        Due.job(x, "set 21=word 20", 1, 0, 1, 0, true);
        Due.job(x, "set 22=1", 1, 0, 1, 0, true);
        Due.same("not done", x.wages(), -1);
        x.minutes(1);
        Due.same("one is not done", x.wages(), -1);
        x.minutes(1);
        x.again(0);
        Due.same("not what it leans on", x.wages(), -1);
        x.minutes(1);
        x.lamp(4, 4, 1);
        x.test(4, 4);
        Due.same("doubted", x.wages(), -1);
        x.again(0);
        x.minutes(1);
        Due.same("what it wrote is still in doubt", x.wages(), -1);
        x.again(1);
        x.minutes(1);
        Due.same("not paid", x.count(10), 0);
        Due.same("paid", x.wages(), 50 + 124);
        Due.same("once", x.wages(), -1);
        Due.same("paid", x.count(10), 1);
        Due.thrown("alter", Due.STATE, () -> x.alter(0, 10, 0));
        Due.thrown("alter", Due.ARGUMENT, () -> x.alter(0, 100, 0));
        Due.thrown("alter", Due.INDEX, () -> x.alter(2, 100, 0));
        Due.same("a worker may still come", x.worker(1, 1), 2);
        Due.same("once", x.wages(), -1);
        TeaNight y = new TeaNight();
        Due.job(y, "", 1, 0, 1, 0, true);
        y.minutes(1);
        Due.same("nobody is paid", y.wages(), 0);
        Due.same("but paid", y.count(10), 1);
    }
}
