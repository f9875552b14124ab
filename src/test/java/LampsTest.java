/** Promises 24 to 27: lamps, tests, doubted words, doubted jobs. */
public final class LampsTest {
    public static void main(String[] args) {
        lamps();
        tests();
        spoilt();
        doubts();
        ahead();
        beyond();
        Due.finish();
    }

    private static void lamps() {
        TeaNight x = new TeaNight();
        x.minutes(5);
        Due.thrown("lamp", Due.INDEX, () -> x.lamp(16, 4, 0));
        Due.thrown("lamp", Due.INDEX, () -> x.lamp(-1, 5, 1));
        Due.thrown("lamp", Due.ARGUMENT, () -> x.lamp(0, 4, 1));
        Due.thrown("lamp", Due.ARGUMENT, () -> x.lamp(0, 481, 1));
        Due.thrown("lamp", Due.ARGUMENT, () -> x.lamp(0, 5, 0));
        Due.yes("lamp", x.lamp(0, 5, 1));
        Due.yes("lamp", x.lamp(15, 480, Integer.MIN_VALUE));
        Due.no("lamp", x.lamp(0, 6, 2));
        Due.no("lamp that would fail later", x.lamp(15, 5, 2));
        Due.thrown("wrong lamp that is told", Due.ARGUMENT, () -> x.lamp(0, 5, 0));
        Due.same("test", x.test(0, 15), 1);
        Due.yes("one that was mended fails again", x.lamp(0, 7, 1));
        Due.same("test of one that would fail later", x.test(0, 0), 0);
        Due.no("it is still told", x.lamp(0, 7, 1));
        x.minutes(2);
        Due.same("test", x.test(0, 0), 1);
        Due.same("caught in all", x.count(12), 2);
    }

    private static void tests() {
        TeaNight x = new TeaNight();
        Due.thrown("test", Due.INDEX, () -> x.test(16, 16));
        Due.thrown("test", Due.INDEX, () -> x.test(-1, 0));
        Due.thrown("test", Due.INDEX, () -> x.test(0, 16));
        Due.thrown("test", Due.INDEX, () -> x.test(5, -1));
        Due.thrown("test", Due.ARGUMENT, () -> x.test(5, 4));
        for (int lamp = 0; lamp < 16; lamp++) {
            Due.yes("lamp", x.lamp(lamp, lamp % 2, 1));
        }
        Due.same("test", x.test(3, 6), 1 << 4 | 1 << 6);
        Due.same("test", x.test(3, 6), 0);
        x.minutes(1);
        Due.same("test", x.test(0, 15), 0xffff & ~(1 << 4 | 1 << 6));
        Due.same("caught", x.count(12), 16);
    }

    private static void spoilt() {
        TeaNight x = new TeaNight();
        Due.job(x, "set 18=999999*1000+999;set 34=word 18;set 19=1", 1);
        x.tell(0, 0);
        x.lamp(2, 1, Integer.MIN_VALUE);
        x.minutes(1);
        Due.same("whatever its bounds", x.word(18), 999999999 ^ Integer.MIN_VALUE);
        Due.same("it cannot be set again", x.look(0, 0), 6);
        Due.same("as", x.as(18, 1), 999999999 ^ Integer.MIN_VALUE);
        Due.same("not written", x.led(34, 480), -2);
        // not by hand, not told, not rung, and not ahead of its minute
        TeaNight y = new TeaNight();
        Due.job(y, "set 17=1", 1);
        Due.job(y, "set 33=1;set 49=2;set 50=3", 1);
        y.lamp(1, 2, 16);
        y.minutes(1);
        Due.same("ahead of its minute", y.word(17), 1);
        y.minutes(1);
        Due.same("in its minute", y.word(33), 17);
        Due.same("each word of it", y.word(49), 18);
        Due.same("no other", y.word(50), 3);
        y.again(0);
        y.way(0, 2);
        y.minutes(3);
        Due.same("by hand", y.word(17), 1);
        y.tell(1, 5);
        y.ring(0, 1, 6);
        y.tell(17, 7);
        Due.same("rung", y.word(1), 6);
        Due.same("told", y.word(17), 7);
        y.again(1);
        y.shorter(1, 1, 0, 1);
        y.way(1, 1);
        y.minutes(1);
        Due.same("short", y.word(33), 17);
        Due.same("caught", y.test(1, 1), 2);
        y.again(1);
        y.minutes(1);
        Due.same("mended", y.word(33), 1);
        // repeat writes once, and what it carries is not spoilt
        TeaNight z = new TeaNight();
        Due.job(z, "repeat 3 set 17=2*word 17+1", 1);
        z.lamp(1, 0, 64);
        z.minutes(1);
        Due.same("repeat", z.word(17), 7 ^ 64);
    }

    private static void doubts() {
        TeaNight x = new TeaNight();
        Due.job(x, "set 17=1", 1);
        Due.job(x, "set 18=word 17", 1);
        Due.job(x, "set 19=word 18", 1);
        Due.job(x, "set 20=word 30", 1);
        x.shorter(2, 1, 1, 1);
        x.minutes(4);
        Due.same("nothing yet", x.doubted(), 0);
        // the lamp fails behind the writing, and the first test behind it catches it
        x.lamp(1, 4, 1);
        Due.same("hidden", x.doubted(), 0);
        x.test(1, 1);
        Due.same("by others between", x.doubted(), 7L << 17);
        Due.yes("doubted", x.doubt(0, 0));
        Due.yes("doubted", x.doubt(2, 0));
        Due.no("doubted", x.doubt(3, 0));
        x.tell(17, 5);
        Due.same("told over", x.doubted(), 6L << 17);
        Due.no("doubted", x.doubt(0, 0));
        x.tell(18, 5);
        x.tell(19, 5);
        Due.same("all told over", x.doubted(), 0);
        x.again(2);
        x.minutes(1);
        Due.same("from a told one", x.doubted(), 0);
        // a first test that was good clears for good
        x.again(0);
        x.minutes(1);
        x.test(0, 3);
        x.lamp(1, 6, 1);
        x.test(0, 15);
        Due.same("good at its first test", x.doubted(), 0);
        // short: not by what it reads, but by its lamp
        x.again(0);
        x.again(1);
        x.minutes(2);
        x.lamp(1, 8, 1);
        x.again(2);
        x.way(2, 1);
        x.minutes(1);
        x.test(1, 1);
        Due.same("short is not misled", x.doubted(), 3L << 17);
        x.lamp(3, 9, 1);
        x.test(3, 3);
        Due.same("short is on the machine", x.doubted(), 7L << 17);
        // by hand: not by its lamp, but by what it reads
        TeaNight y = new TeaNight();
        Due.job(y, "set 17=1", 1, 0, 1, 0, false);
        Due.job(y, "set 18=word 17", 1, 0, 1, 0, false);
        Due.job(y, "set 35=word 19", 1, 0, 1, 0, false);
        y.way(2, 2);
        y.minutes(1);
        y.way(1, 2);
        y.minutes(1);
        y.lamp(1, 2, 1);
        y.lamp(2, 2, 1);
        y.lamp(3, 2, 1);
        Due.same("caught", y.test(0, 15), 14);
        Due.same("by hand", y.doubted(), 3L << 17);
        Due.thrown("doubt", Due.INDEX, () -> y.doubt(3, 2));
        Due.thrown("doubt", Due.INDEX, () -> y.doubt(-1, 0));
        Due.thrown("doubt", Due.ELEMENT, () -> y.doubt(0, 2));
        Due.thrown("doubt", Due.ELEMENT, () -> y.doubt(0, -1));
    }

    /** Of what a job reads the writings ahead of all that it wrote count, and those misled write no good words. */
    private static void ahead() {
        TeaNight x = new TeaNight();
        Due.job(x, "set 17=1", 1);
        Due.job(x, "set 40=3;set 41=word 17;set 17=word 17", 1);
        Due.job(x, "set 42=word 40;stop if 1<2", 1);
        x.minutes(1);
        x.lamp(1, 1, 1);
        x.test(1, 1);
        Due.same("bad", x.doubted(), 1L << 17);
        x.minutes(1);
        Due.same("all that a misled job writes", x.doubted(), 1L << 17 | 3L << 40);
        x.minutes(1);
        Due.same("also of one that failed", x.doubted(), 1L << 17 | 7L << 40);
        Due.yes("one that failed", x.doubt(2, 0));
        // now 17 is written by the second: it leads itself astray
        x.again(1);
        x.minutes(1);
        Due.same("by its own latest", x.doubted(), 1L << 17 | 7L << 40);
        x.tell(17, 1);
        x.again(1);
        x.minutes(1);
        Due.same("now it is good", x.doubted(), 1L << 42);
    }

    private static void beyond() {
        TeaNight x = new TeaNight();
        Due.job(x, "set 17=1", 1);
        Due.job(x, "set 18=word 17", 1);
        Due.job(x, "set 19=word 18", 1, 0, 1, 0, true);
        Due.job(x, "set 20=1", 1);
        x.minutes(2);
        Due.no("not done", x.doubt(2, 1));
        Due.yes("done", x.doubt(1, 1));
        x.minutes(1);
        Due.yes("done", x.doubt(2, 1));
        Due.no("not done", x.doubt(3, 1));
        x.again(0);
        Due.no("others between", x.doubt(2, 1));
        x.shorter(0, 1, 0, 0);
        x.way(0, 1);
        x.minutes(1);
        Due.no("short", x.doubt(2, 1));
        x.again(0);
        x.way(0, 2);
        x.minutes(3);
        Due.yes("by hand", x.doubt(2, 1));
        x.lamp(2, 7, 1);
        x.test(2, 2);
        Due.no("doubted between", x.doubt(2, 1));
        Due.yes("not on that", x.doubt(0, 1));
        Due.no("itself doubted", x.doubt(1, 1));
        // two that lean on one another
        TeaNight y = new TeaNight();
        Due.job(y, "set 20=word 21", 1, 0, 1, 0, true);
        Due.job(y, "set 21=word 20", 1, 0, 1, 0, true);
        y.way(0, 2);
        y.minutes(1);
        Due.no("on one another", y.doubt(0, 1));
        y.minutes(1);
        Due.yes("on one another", y.doubt(0, 1));
        Due.yes("on one another", y.doubt(1, 1));
    }
}
