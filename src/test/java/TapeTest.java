/** Promises 1 to 3, 11, 12, 14: a new object, the tape, the texts and where they are wrong. */
public final class TapeTest {
    public static void main(String[] args) {
        fresh();
        tape();
        jobs();
        faults();
        deep();
        lines();
        reads();
        Due.finish();
    }

    private static void fresh() {
        TeaNight x = new TeaNight();
        int[] want = {0, 0, 0, 0, -1, 0, 0, 0, 0, 0, 0, 0, 0};
        for (int what = 0; what < want.length; what++) {
            Due.same("count " + what, x.count(what), want[what]);
        }
        Due.same("fault", x.fault(), -1);
        for (int word = 0; word < 64; word++) {
            Due.same("word", x.word(word), 0);
            Due.same("led", x.led(word, 480), -2);
        }
        x.ring(0, 0, 7);
        Due.same("minutes of batch 1, heat 1", x.fill(false), 7);
        Due.same("loads of weight 1, room 0", x.fill(true), 7);
        Due.same("cost of price 0, coin 0", x.cost(0), 0);
        Due.same("order", x.order(0), -1);
        Due.same("beside", x.beside(true), 0);
        Due.same("beside", x.beside(false), 0);
        Due.same("none", TeaNight.NONE, -1);
    }

    private static void tape() {
        TeaNight x = new TeaNight();
        for (int i = 1; i <= 20; i++) {
            Due.same("feed " + i, x.feed(i, i, i, i, i), 20 * i);
        }
        Due.same("feed a 21st", x.feed(1, 1, 1, 1, 1), -1);
        Due.no("end above", x.end(401));
        Due.no("end below", x.end(-1));
        Due.yes("end at", x.end(400));
        Due.yes("end", x.end(381));
        Due.same("feed when 381", x.feed(1, 1, 1, 1, 1), -1);
        Due.no("end that is gone", x.end(382));
        Due.yes("end", x.end(380));
        Due.same("feed when 380", x.feed(1, 1, 1, 1, 1), 400);
        Due.yes("end", x.end(0));
        Due.yes("end again", x.end(0));
        Due.no("end of none", x.end(1));
        // "set 16=1" by its numbers, highest byte first
        Due.same("feed", x.feed(0x73657420, 0x31363d31, -1, -1, -1), 20);
        Due.yes("end", x.end(8));
        Due.same("job", x.job(1, 0, 0, 0, false), 0);
        Due.same("writes", x.words(0, true), 1L << 16);
        Due.same("the tape is used up", x.feed(0, 0, 0, 0, 0), 20);
    }

    private static void jobs() {
        TeaNight x = new TeaNight();
        int[][] wrong = {{0, 0, 0, 0}, {61, 0, 0, 0}, {1, -1, 0, 0}, {1, 1001, 0, 0}, {1, 0, -1, 0}, {1, 0, 481, 0},
            {1, 0, 0, -1}, {1, 0, 0, 61}};
        Due.feed(x, "set 1");
        Due.thrown("a wrong text", Due.ARGUMENT, () -> x.job(1, 0, 0, 0, false));
        Due.same("fault", x.fault(), 4);
        for (int[] w : wrong) {
            Due.feed(x, "set 16=");
            Due.thrown("job of " + w[0] + w[1] + w[2] + w[3], Due.ARGUMENT, () -> x.job(w[0], w[1], w[2], w[3], true));
            Due.same("fault of a text that was not read", x.fault(), 4);
            Due.no("the tape is used up", x.end(1));
        }
        Due.same("jobs", x.count(1), 0);
        Due.same("job", Due.job(x, "", 1, 0, 0, 0, false), 0);
        Due.same("fault", x.fault(), -1);
        Due.same("lines", x.look(0, 4), 0);
        Due.same("job", Due.job(x, "   ", 60, 1000, 480, 60, true), 1);
        Due.same("lines", x.look(1, 4), 0);
        for (int i = 2; i < 12; i++) {
            Due.same("job", Due.job(x, "set 16=1", 1), i);
        }
        Due.feed(x, "set 16=1");
        Due.thrown("a 13th job", Due.UNSUPPORTED, () -> x.job(1, 0, 0, 0, false));
        Due.same("fault of a right one", x.fault(), -1);
        Due.no("the tape is used up", x.end(1));
        Due.feed(x, "set 16?1");
        Due.thrown("a 13th wrong job", Due.ARGUMENT, () -> x.job(1, 0, 0, 0, false));
        Due.same("fault", x.fault(), 6);
        Due.feed(x, "set 16?1");
        Due.thrown("a 13th job of no minutes", Due.ARGUMENT, () -> x.job(0, 0, 0, 0, false));
        Due.same("jobs", x.count(1), 12);
    }

    private static void faults() {
        String[] right = {"set 16=0", "set16=000000", "  set  16 = 1 + 2 - 3 * word 0 ", "set 63=2*3", "set 16=999999*old 63",
            "repeat 9 set 16=day-weather", "repeat1set16=1", "sum 16 from 5 to 5", "sum16from0to63", "round 20 by 9999",
            "ask if 1<2", "stop if not 1>2 and(2<3 or 4>5)or day<weather", "ask if((1<2))", "set 000016=1"};
        for (String text : right) {
            Due.wrongAt(text, -1);
        }
        Object[][] wrong = {{"x", 0}, {" set", 4}, {"set 15=1", 4}, {"set 64=1", 4}, {"set 16", 6}, {"set 16 ", 7}, {"set 16=", 7},
            {"set 16=1;", 9}, {"set 16=1; ", 10}, {"set 16=1;;", 9}, {"set 16=-1", 7}, {"set 16=1 2", 9}, {"set 16=1000000", 7},
            {"set 16=0000001", 7}, {"set 0000016=1", 4}, {"set 16=2*3*4", 10}, {"set 16=word 3*2", 13}, {"set 16=word 64", 12},
            {"set 16=old 64", 11}, {"set 16=(1)", 7}, {"set 16=days", 7}, {"set 16=2*", 9}, {"set 16=2*-1", 9},
            {"repeat 0 set 16=1", 7}, {"repeat 10 set 16=1", 7}, {"repeat 2 sum 16 from 1 to 2", 9}, {"repeat 2", 8},
            {"repeat 2 repeat 2 set 16=1", 9}, {"sum 15 from 1 to 2", 4}, {"sum 16 to 1", 7}, {"sum 16 from 5 to 4", 17},
            {"sum 16 from 64 to 64", 12}, {"sum 16 from 1 to 64", 17}, {"sum 16 from 1", 13}, {"round 15 by 1", 6},
            {"round 16 by 0", 12}, {"round 16 by 10000", 12}, {"round 16=1", 8}, {"ask 1<2", 4}, {"ask if 1", 8}, {"ask if 1=2", 8},
            {"ask if 1<2<3", 10}, {"ask if (1<2", 11}, {"ask if 1<2)", 10}, {"ask if (1)<2", 9}, {"ask if not", 10},
            {"ask if 1<2 or", 13}, {"ask if 1<2 and or 1<2", 15}, {"ask if 1<2orday>3", 10}, {"ask if 1<2 or day>3", -1},
            {"Set 16=1", 0}, {"set\t16=1", 3}, {"set 16=1\u00e9", 8}, {"set 16=1\0", 8}, {"setx 16=1", 0}, {"se", 0}, {"set 16=1 set 17=1", 9},
            {"stop if 1<2 stop", 12}, {"5", 0}, {";", 0}, {"set 16==1", 7}, {"set 16=word", 11}, {"set 16=word word", 12}, {"if 1<2", 0}};
        for (Object[] w : wrong) {
            Due.wrongAt((String) w[0], (Integer) w[1]);
        }
        TeaNight x = new TeaNight();
        Due.job(x, "set 16=1", 1);
        Due.same("fault of a right text", x.fault(), -1);
        Due.feed(x, "set 16=?");
        Due.thrown("wrong", Due.ARGUMENT, () -> x.job(1, 1, 1, 1, false));
        Due.same("fault stays", x.fault(), 7);
        Due.same("fault stays", x.fault(), 7);
        Due.job(x, "set 16=1", 1);
        Due.same("fault is of the latest", x.fault(), -1);
    }

    private static void deep() {
        Due.wrongAt("ask if ((((((1<2))))))", -1);
        Due.wrongAt("ask if (((((((1<2)))))))", 13);
        Due.wrongAt("ask if not not not not not not 1<2", -1);
        Due.wrongAt("ask if not not not not not not not 1<2", 31);
        Due.wrongAt("ask if not(not(not(1<2)))", -1);
        Due.wrongAt("ask if not(not(not((1<2))))", 19);
        Due.wrongAt("ask if not(not(not(not 1<2)))", 19);
        Due.wrongAt("ask if ((((((1<2)))))) and ((((((1<2))))))", -1);
        Due.wrongAt("ask if not 1<2 and not 1<2 and not 1<2 and not 1<2 and not 1<2 and not 1<2 and not 1<2", -1);
    }

    private static void lines() {
        String ten = "set 16=1";
        for (int i = 1; i < 10; i++) {
            ten += ";set 16=1";
        }
        Due.wrongAt(ten, -1);
        Due.wrongAt(ten + ";", ten.length() + 1);
        Due.wrongAt(ten + "; ask if 1<2", ten.length() + 2);
        TeaNight x = new TeaNight();
        Due.job(x, ten, 1);
        Due.same("lines", x.look(0, 4), 10);
        String most = "set 16=1";
        while (most.length() < 400) {
            most += most.length() == 399 ? " " : "+1";
        }
        Due.wrongAt(most, -1);
        TeaNight y = new TeaNight();
        Due.job(y, most, 1);
        y.minutes(1);
        Due.same("197 times 1", y.word(16), 197);
    }

    private static void reads() {
        TeaNight x = new TeaNight();
        Due.job(x, "set 20=word 20+word 3-old 9;set 21=word 20+word 21;round 22 by 5;round 21 by 5", 1);
        Due.same("reads", x.words(0, false), 1L << 20 | 1L << 3 | 1L << 21 | 1L << 22);
        Due.same("writes", x.words(0, true), 1L << 20 | 1L << 21 | 1L << 22);
        Due.job(x, "set 62=1;sum 63 from 61 to 63;ask if word 1<2*word 2 or word 63>0;stop if not(word 5>1)", 1);
        Due.same("reads", x.words(1, false), 1L << 61 | 1L << 63 | 2 | 4 | 32);
        Due.same("writes", x.words(1, true), 3L << 62);
        Due.job(x, "ask if 1<2", 1);
        Due.same("reads of none", x.words(2, false), 0);
        Due.same("writes of none", x.words(2, true), 0);
        Due.thrown("words", Due.INDEX, () -> x.words(3, true));
        Due.thrown("words", Due.INDEX, () -> x.words(-1, false));
    }
}
