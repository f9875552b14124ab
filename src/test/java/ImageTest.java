/** Promises 42 to 46: rows torn and checked, the image, counts. */
public final class ImageTest {
    public static void main(String[] args) {
        rows();
        image();
        imageThen();
        counts();
        Due.finish();
    }

    private static void rows() {
        TeaNight x = new TeaNight();
        Due.thrown("tear", Due.ELEMENT, () -> x.tear(0, 1));
        Due.thrown("tear", Due.ELEMENT, () -> x.tear(-1, 1));
        Due.same("check", x.check(), -1);
        for (int i = 0; i < 7; i++) {
            x.tell(20 + i, 100 + i);
        }
        Due.thrown("tear", Due.ELEMENT, () -> x.tear(7, 1));
        Due.same("tear", x.tear(6, 1), 107);
        Due.same("check", x.check(), 6);
        Due.same("tear", x.tear(0, -1), ~100);
        Due.same("check", x.check(), 0);
        Due.same("as", x.as(20, 0), ~100);
        Due.same("the word stays", x.word(20), 100);
        Due.same("tear by nothing", x.tear(0, 0), ~100);
        x.tell(30, 1);
        Due.same("check", x.check(), 0);
        x.tell(30, 2);
        Due.same("the latest 8", x.check(), 5);
        Due.same("still told so", x.as(20, 480), ~100);
        Due.same("row 0", x.tear(0, 0), 101);
        Due.same("row 7", x.tear(7, 4), 6);
        Due.thrown("row 8", Due.ELEMENT, () -> x.tear(8, 4));
        Due.same("as", x.as(30, 0), 6);
        Due.same("torn back", x.tear(5, 1), 106);
        Due.same("check", x.check(), 7);
        Due.same("torn back", x.tear(7, 4), 2);
        Due.same("check", x.check(), -1);
        Due.same("nothing is written", x.count(2), 9);
        // a spoilt word is as it was written
        TeaNight y = new TeaNight();
        Due.job(y, "set 20=1", 1);
        y.lamp(4, 0, 2);
        y.minutes(1);
        Due.same("as it was written", y.check(), -1);
        Due.same("as", y.as(20, 1), 3);
        Due.no("torn is not doubted", y.tear(0, 1) != 2 || y.doubted() != 0);
    }

    private static int[] seen(TeaNight x) {
        int[] seen = new int[400];
        int n = 0;
        for (int what = 0; what < 13; what++) {
            seen[n++] = x.count(what);
        }
        for (int word = 0; word < 64; word++) {
            seen[n++] = x.word(word);
            seen[n++] = x.as(word, 2);
            seen[n++] = x.led(word, 480);
        }
        for (int job = 0; job < x.count(1); job++) {
            for (int what = 0; what < 10; what++) {
                seen[n++] = x.look(job, what);
            }
            seen[n++] = x.leans(job);
            seen[n++] = x.doubt(job, 1) ? 1 : 0;
        }
        for (int worker = 0; worker < x.count(9); worker++) {
            for (int what = 0; what < 4; what++) {
                seen[n++] = x.pay(worker, what);
            }
        }
        for (int what = 0; what < 4; what++) {
            seen[n++] = x.foretell(0, 0, what);
        }
        for (int good = 0; good < 4; good++) {
            seen[n++] = (int) x.cost(good);
        }
        seen[n++] = (int) x.fill(true);
        seen[n++] = (int) x.fill(false);
        seen[n++] = (int) x.doubted();
        seen[n++] = x.check();
        seen[n++] = x.plan(20, 20);
        seen[n++] = x.quarrel(0);
        seen[n++] = x.order(0);
        return seen;
    }

    private static void change(TeaNight x, int n) {
        Due.job(x, "set 20=" + n + ";ask if 1<2;set 22=old 20+day", 3, 1, 2, 2, n == 1);
        Due.job(x, "set 21=word 20;stop if day>0", 2, 1, 2, 0, false);
        x.shorter(0, 1 + n, 2, n);
        x.old(20, n);
        x.day(n, n);
        x.ring(0, 0, n);
        x.tell(1, n);
        x.wanted(0, 0, n, n, n);
        x.good(0, n, n, n, n);
        x.fleet(n, 0, 0, n, n);
        x.worker(n, n);
        x.alter(0, 50 + n, n);
        x.minutes(7);
        x.lamp(4, x.count(0), n);
        x.lamp(5, 100, n);
        x.tear(0, n);
        x.again(0);
        x.way(0, 1);
        x.test(4, 4);
        x.out(n);
        x.minutes(n);
        x.wages();
    }

    private static void image() {
        TeaNight x = new TeaNight();
        Due.no("none kept", x.back());
        int[] fresh = seen(x);
        x.image();
        change(x, 1);
        int[] first = seen(x);
        Due.yes("back", x.back());
        compare(seen(x), fresh);
        change(x, 1);
        compare(seen(x), first);
        x.image();
        change(x, 2);
        int[] second = seen(x);
        for (int i = 0; i < 2; i++) {
            Due.yes("back", x.back());
            compare(seen(x), first);
            change(x, 2);
            compare(seen(x), second);
        }
        // the tape and the fault are not in it
        Due.feed(x, "set ?");
        x.image();
        try {
            x.job(1, 1, 1, 1, false);
        } catch (IllegalArgumentException e) {
            Due.same("fault", x.fault(), 4);
        }
        x.feed(0, 0, 0, 0, 0);
        Due.yes("back", x.back());
        Due.same("fault stays", x.fault(), 4);
        Due.same("the tape stays", x.feed(0, 0, 0, 0, 0), 40);
    }

    /** Of what the image keeps, what shows only in what happens then. */
    private static void imageThen() {
        TeaNight x = new TeaNight();
        Due.job(x, "set 20=old 21", 1);
        Due.job(x, "set 22=1", 9, 0, 0, 4, false);
        x.old(21, 5);
        x.minutes(6);
        x.image();
        x.old(21, 6);
        x.minutes(4);
        x.shorter(1, 1, 0, 0);
        x.again(1);
        x.way(1, 1);
        x.minutes(1);
        x.again(0);
        x.minutes(1);
        Due.same("old", x.word(20), 6);
        Due.yes("back", x.back());
        Due.same("left", x.look(1, 1), 4);
        x.out(1);
        Due.same("kept at 4 of the 9 with which it began", x.look(1, 1), 5);
        Due.no("its short way is gone", x.again(1) || x.way(1, 1));
        x.again(0);
        x.minutes(7);
        Due.same("old is back", x.word(20), 5);
        // a job that came behind the image leaves nothing in its place
        Due.job(x, "set 23=1", 1, 7, 1, 0, true);
        x.shorter(2, 3, 4, 5);
        x.way(2, 2);
        x.minutes(1);
        x.back();
        Due.job(x, "", 1);
        int[] want = {0, 0, 0, 0, 0, -1, 0, 0, 0, 2};
        for (int what = 0; what < 10; what++) {
            Due.same("look " + what, x.look(2, what), want[what]);
        }
        Due.no("no short way", x.way(2, 1));
    }

    private static void compare(int[] got, int[] want) {
        for (int i = 0; i < got.length; i++) {
            Due.same("seen " + i, got[i], want[i]);
        }
    }

    private static void counts() {
        TeaNight x = new TeaNight();
        Due.job(x, "set 20=1;ask if 1<2", 2);
        Due.job(x, "ask if 1<2;stop if 1<2", 3);
        x.ring(0, 0, 1);
        x.worker(1, 1);
        x.wanted(0, 0, 0, 0, 0);
        x.minutes(3);
        x.out(2);
        int[] want = {3, 2, 2, 2, 1, 0, 1, 1, 0, 1, 0, 1, 0};
        for (int what = 0; what < 13; what++) {
            Due.same("count " + what, x.count(what), want[what]);
        }
        x.minutes(10);
        x.again(0);
        Due.same("asked", x.count(7), 2);
        Due.same("failed", x.count(8), 1);
        Due.same("wait", x.count(5), 1);
        Due.same("none runs", x.count(4), -1);
        Due.same("count", x.count(13), -1);
        Due.same("count", x.count(-1), -1);
    }
}
