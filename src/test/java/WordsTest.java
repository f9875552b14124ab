/** Promises 4 to 10: the day, old words, rings, tellings, words as of a minute; and what a text means. */
public final class WordsTest {
    private static final int TOP = 999999999;

    public static void main(String[] args) {
        day();
        old();
        rings();
        asOf();
        meaning();
        conditions();
        floods();
        Due.finish();
    }

    private static void day() {
        TeaNight x = new TeaNight();
        x.day(6, 9);
        int[][] wrong = {{-1, 0}, {7, 0}, {0, -1}, {0, 10}};
        for (int[] w : wrong) {
            Due.thrown("day", Due.ARGUMENT, () -> {
                x.day(w[0], w[1]);
                return null;
            });
        }
        Due.job(x, "set 16=100*day+weather", 1);
        x.minutes(1);
        Due.same("day and weather stay", x.word(16), 609);
    }

    private static void old() {
        TeaNight x = new TeaNight();
        x.old(0, TOP);
        x.old(63, -TOP);
        Due.thrown("old", Due.INDEX, () -> {
            x.old(64, TOP + 1);
            return null;
        });
        Due.thrown("old", Due.INDEX, () -> {
            x.old(-1, 0);
            return null;
        });
        Due.thrown("old", Due.ARGUMENT, () -> {
            x.old(0, TOP + 1);
            return null;
        });
        Due.thrown("old", Due.ARGUMENT, () -> {
            x.old(0, -TOP - 1);
            return null;
        });
        Due.job(x, "set 16=old 0;set 17=old 63;set 18=old 5", 1);
        x.minutes(1);
        Due.same("old", x.word(16), TOP);
        Due.same("old", x.word(17), -TOP);
        Due.same("old", x.word(18), 0);
        Due.same("old is no writing", x.count(2), 3);
    }

    private static void rings() {
        TeaNight x = new TeaNight();
        Due.same("ring", x.ring(3, 2, 99999), 1);
        Due.same("word", x.word(14), 99999);
        Due.same("ring", x.ring(0, 3, 0), 2);
        Due.thrown("ring", Due.INDEX, () -> x.ring(4, 0, -1));
        Due.thrown("ring", Due.INDEX, () -> x.ring(-1, 0, 0));
        Due.thrown("ring", Due.INDEX, () -> x.ring(0, 4, 0));
        Due.thrown("ring", Due.INDEX, () -> x.ring(0, -1, 0));
        Due.thrown("ring", Due.ARGUMENT, () -> x.ring(0, 0, -1));
        Due.thrown("ring", Due.ARGUMENT, () -> x.ring(0, 0, 100000));
        Due.same("tell", x.tell(63, TOP), 3);
        Due.same("tell", x.tell(0, -TOP), 4);
        Due.thrown("tell", Due.INDEX, () -> x.tell(64, TOP + 1));
        Due.thrown("tell", Due.INDEX, () -> x.tell(-1, 0));
        Due.thrown("tell", Due.ARGUMENT, () -> x.tell(0, TOP + 1));
        Due.thrown("tell", Due.ARGUMENT, () -> x.tell(0, -TOP - 1));
        Due.same("word", x.word(63), TOP);
        Due.same("word", x.word(0), -TOP);
        Due.thrown("word", Due.INDEX, () -> x.word(64));
        Due.thrown("word", Due.INDEX, () -> x.word(-1));
        Due.same("rings and tellings", x.count(6), 4);
        Due.same("writings", x.count(2), 4);
        for (int i = 5; i <= 400; i++) {
            Due.same("tell", i % 2 == 0 ? x.tell(20, i) : x.ring(0, 0, i), i);
        }
        Due.same("a 401st", x.tell(20, 5), -1);
        Due.same("a 401st", x.ring(0, 0, 5), -1);
        Due.thrown("a wrong 401st", Due.ARGUMENT, () -> x.ring(0, 0, -1));
        Due.same("nothing is written", x.word(20), 400);
        Due.same("writings", x.count(2), 400);
    }

    private static void asOf() {
        TeaNight x = new TeaNight();
        x.tell(20, 5);
        x.tell(20, 6);
        Due.job(x, "set 20=7", 3);
        x.minutes(5);
        x.tell(20, 8);
        Due.same("as of before", x.as(20, -1), 0);
        Due.same("as of 0", x.as(20, 0), 6);
        Due.same("as of 2", x.as(20, 2), 6);
        Due.same("as of 3", x.as(20, 3), 7);
        Due.same("as of 4", x.as(20, 4), 7);
        Due.same("as of 5", x.as(20, 5), 8);
        Due.same("as of the end", x.as(20, Integer.MAX_VALUE), 8);
        Due.same("as of the least", x.as(20, Integer.MIN_VALUE), 0);
        Due.same("led", x.led(20, -1), -2);
        Due.same("led", x.led(20, 0), -1);
        Due.same("led", x.led(20, 2), -1);
        Due.same("led", x.led(20, 3), 0);
        Due.same("led", x.led(20, 5), -1);
        Due.same("led", x.led(21, 5), -2);
        Due.thrown("as", Due.INDEX, () -> x.as(64, 0));
        Due.thrown("as", Due.INDEX, () -> x.as(-1, 0));
        Due.thrown("led", Due.INDEX, () -> x.led(64, 0));
        Due.thrown("led", Due.INDEX, () -> x.led(-1, 0));
    }

    private static void meaning() {
        Due.same("parts", Due.worked("set 16=10-3+2*4-day", 16), 15);
        Due.same("repeat", Due.worked("repeat 5 set 16=2*word 16+1", 16), 31);
        Due.same("repeat of others", Due.worked("set 17=3;repeat 9 set 16=word 17+1", 16), 4);
        Due.same("sum", Due.worked("set 20=1;set 21=2;set 22=4;sum 30 from 20 to 22", 30), 7);
        Due.same("sum of itself", Due.worked("set 20=1;set 21=2;sum 21 from 20 to 21", 21), 3);
        int[][] rounded = {{0, 10, 0}, {4, 10, 0}, {5, 10, 10}, {6, 10, 10}, {-4, 10, 0}, {-5, 10, 0}, {-6, 10, -10},
            {-15, 10, -10}, {7, 1, 7}, {1, 2, 2}, {-1, 2, 0}, {10, 9999, 0}, {5000, 9999, 9999}, {4999, 9999, 0}, {1, 3, 0}, {2, 3, 3}};
        for (int[] r : rounded) {
            TeaNight x = new TeaNight();
            x.tell(16, r[0]);
            Due.job(x, "round 16 by " + r[1], 1);
            x.minutes(1);
            Due.same("round " + r[0] + " by " + r[1], x.word(16), r[2]);
        }
        TeaNight x = new TeaNight();
        Due.job(x, "set 16=1;round 16 by 5;sum 17 from 16 to 18;repeat 3 set 18=4;ask if 1<2;ask if 2<1", 1);
        x.minutes(1);
        Due.same("one writing each", x.count(2), 4);
        Due.same("asked", x.look(0, 8), 1);
        Due.same("great between", Due.worked("set 16=999999*999999-999999*999998", 16), 999999);
        String great = "set 16=999999*999999+999999*999999-999999*999999-999999*999999+5";
        Due.same("great between", Due.worked(great, 16), 5);
    }

    private static void conditions() {
        Object[][] tests = {{"1<2", 1}, {"2<2", 0}, {"3>2", 1}, {"2>2", 0}, {"not 1<2", 0}, {"not not 1<2", 1},
            {"1<2 and 2<1", 0}, {"1<2 or 2<1", 1}, {"2<1 or 2<1 or 1<2", 1}, {"1<2 or 1<2 and 2<1", 1},
            {"(1<2 or 1<2) and 2<1", 0}, {"not 1<2 or 1<2", 1}, {"not(1<2 or 1<2)", 0}, {"not 2<1 and 1<2", 1},
            {"2<1 and 2<1 or 1<2 and 1<2", 1}, {"1<2 and (2<1 or not(2<1 and 1<2))", 1}, {"2-3<0", 1}, {"word 16<0-1", 0},
            {"1<2 and 1<2 and 2<1", 0}, {"2<1 or 1<2 and not 2<1", 1}, {"((2<1 or 1<2) and (2<1 or 1<2))", 1}};
        for (Object[] t : tests) {
            TeaNight x = new TeaNight();
            Due.job(x, "ask if " + t[0], 1);
            Due.job(x, "set 16=1;stop if " + t[0] + ";set 17=1", 1);
            x.minutes(2);
            int holds = (Integer) t[1];
            Due.same("ask if " + t[0], x.look(0, 8), holds);
            Due.same("asked in all", x.count(7), holds);
            Due.same("stop if " + t[0], x.look(1, 0), holds == 1 ? 6 : 2);
            Due.same("ahead of the stop", x.word(16), 1);
            Due.same("behind the stop", x.word(17), 1 - holds);
            Due.same("failed in all", x.count(8), holds);
        }
    }

    private static void floods() {
        TeaNight x = new TeaNight();
        x.tell(0, TOP);
        x.tell(1, -TOP);
        x.tell(1, 0);
        x.tell(2, -TOP);
        Due.job(x, "set 20=1;set 21=word 0+1;set 22=1", 1);
        Due.job(x, "set 30=1;set 31=word 2-1;set 32=1", 1);
        Due.job(x, "set 40=0+word 0;round 40 by 2;set 42=1", 1);
        Due.job(x, "repeat 3 set 50=999999*word 50+1000-2*word 0;set 52=1", 1);
        Due.job(x, "set 53=word 0;set 54=word 2", 1);
        x.minutes(5);
        Due.same("above", x.look(0, 0), 6);
        Due.same("stays", x.word(20), 1);
        Due.same("not written", x.led(21, 480), -2);
        Due.same("not done", x.led(22, 480), -2);
        Due.same("below", x.look(1, 0), 6);
        Due.same("stays", x.word(30), 1);
        Due.same("not done", x.led(32, 480), -2);
        Due.same("round floods", x.look(2, 0), 6);
        Due.same("stays", x.word(40), TOP);
        Due.same("repeat floods at its first time", x.look(3, 0), 6);
        Due.same("not written", x.led(50, 480), -2);
        Due.same("the bounds are fine", x.look(4, 0), 2);
        Due.same("failed", x.count(8), 4);
        Due.same("a job that failed is done", x.look(0, 6), 1);
        // what a repeat carried when it flooded is gone
        TeaNight y = new TeaNight();
        Due.job(y, "repeat 9 set 20=1000*word 20+7", 1);
        Due.job(y, "set 21=word 20;stop if word 20>0", 1);
        y.way(1, 2);
        y.minutes(3);
        Due.same("floods at its 4th time", y.look(0, 0), 6);
        Due.same("the word is as it was", y.word(21), 0);
        Due.same("the word is as it was", y.look(1, 0), 4);
    }
}
