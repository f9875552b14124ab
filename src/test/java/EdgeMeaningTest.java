/** The edges of what a text means and of which words it reads, and of leaning, quarrels and order: the rest of ==== 2. */
public final class EdgeMeaningTest {
    private static final int TOP = 999999999;
    private static final int NONE = -1;

    public static void main(String[] args) {
        repeats();
        nearest();
        bounds();
        staysAhead();
        greatSums();
        parts();
        conditions();
        asked();
        stops();
        reads();
        leans();
        quarrels();
        order();
        numbersOfAJob();
        Due.finish();
    }

    /** A night with some words told, in which a text was done; of a job of one minute. */
    private static TeaNight done(String text, int... told) {
        TeaNight x = new TeaNight();
        for (int i = 0; i + 1 < told.length; i += 2) {
            x.tell(told[i], told[i + 1]);
        }
        Due.job(x, text, 1);
        x.minutes(1);
        return x;
    }

    private static void word(String text, int word, int want, int... told) {
        TeaNight x = done(text, told);
        Due.same("state of " + text, x.look(0, 0), 2);
        Due.same("word " + word + " of " + text, x.word(word), want);
    }

    private static void floods(String text, int... told) {
        TeaNight x = done(text, told);
        Due.same("state of " + text, x.look(0, 0), 6);
        Due.same("failures of " + text, x.count(8), 1);
        Due.same("nothing is written by " + text, x.count(2), told.length / 2);
    }

    // "with repeat it is worked out so often, each time with the WORD as it came out the time before, and is written once, at last"
    private static void repeats() {
        word("repeat 1 set 16=word 16+5", 16, 8, 16, 3);
        word("repeat 9 set 16=word 16+5", 16, 48, 16, 3);
        word("repeat 3 set 16=2*word 16-word 17", 16, 15, 16, 1, 17, -1);
        word("repeat 4 set 16=word 17+1", 16, 3, 17, 2);
        word("repeat 2 set 16=10-word 16", 16, 3, 16, 3);
        word("repeat 5 set 16=word 16+word 16", 16, 96, 16, 3);
        // the number of another line's repeat is its own
        word("repeat 3 set 16=word 16+1;set 17=word 16;repeat 2 set 18=word 17+word 18", 18, 6);
    }

    // "round: the multiple of the NUMBER that is nearest to it, of two the greater"
    private static void nearest() {
        int[][] all = {{0, 1, 0}, {5, 10, 10}, {4, 10, 0}, {6, 10, 10}, {15, 10, 20}, {-5, 10, 0}, {-4, 10, 0}, {-6, 10, -10},
            {-15, 10, -10}, {-14, 10, -10}, {-16, 10, -20}, {1, 2, 2}, {-1, 2, 0}, {-3, 2, -2}, {3, 2, 4}, {1, 3, 0}, {2, 3, 3},
            {-1, 3, 0}, {-2, 3, -3}, {4999, 9999, 0}, {5000, 9999, 9999}, {-4999, 9999, 0}, {-5000, 9999, -9999},
            {TOP, 1, TOP}, {-TOP, 1, -TOP}, {TOP, 9, TOP}, {-TOP, 9, -TOP}, {-TOP, 2, 1 - TOP}, {TOP - 1, 2, TOP - 1}};
        for (int[] r : all) {
            word("round 16 by " + r[1], 16, r[2], 16, r[0]);
        }
    }

    // "A WORD that would be out of its bounds: the job FAILS there (FLOOD; with repeat at the first time that it would be), too."
    private static void bounds() {
        word("set 16=word 0+1", 16, TOP, 0, TOP - 1);
        word("set 16=word 0-1", 16, -TOP, 0, 1 - TOP);
        floods("set 16=word 0+1", 0, TOP);
        floods("set 16=word 0-1", 0, -TOP);
        floods("set 16=999999*999999");
        floods("set 16=0-999999*999999");
        word("sum 16 from 0 to 1", 16, TOP, 0, TOP - 1, 1, 1);
        word("sum 16 from 0 to 1", 16, -TOP, 0, 1 - TOP, 1, -1);
        floods("sum 16 from 0 to 1", 0, TOP, 1, 1);
        floods("sum 16 from 0 to 1", 0, -TOP, 1, -1);
        floods("sum 16 from 0 to 5", 0, TOP, 1, TOP, 2, TOP, 3, TOP, 4, TOP, 5, TOP);
        // four and five of them come back into bounds, if counted by 32 bits
        floods("sum 16 from 0 to 3", 0, TOP, 1, TOP, 2, TOP, 3, TOP);
        floods("sum 16 from 0 to 3", 0, -TOP, 1, -TOP, 2, -TOP, 3, -TOP);
        floods("sum 16 from 0 to 4", 0, TOP, 1, TOP, 2, TOP, 3, TOP, 4, TOP);
        floods("set 16=word 0+word 0+word 0+word 0", 0, TOP);
        floods("set 16=4*word 0", 0, TOP);
        floods("set 16=0-5*word 0", 0, TOP);
        floods("repeat 3 set 16=4*word 16", 16, TOP);
        word("sum 16 from 0 to 4", 16, TOP, 0, TOP, 1, TOP, 2, TOP, 3, -TOP, 4, -TOP);
        floods("round 16 by 2", 16, TOP);
        floods("round 16 by 10", 16, TOP);
        floods("round 16 by 10", 16, -TOP);
        word("round 16 by 2", 16, 1 - TOP, 16, -TOP);
        // at the first time that it would be, though it would come back
        word("repeat 2 set 16=2*word 16-word 0", 16, 1, 16, 250000000, 0, 333333333);
        floods("repeat 2 set 16=word 0-word 16", 0, TOP, 16, -1);
        floods("repeat 9 set 16=10*word 16", 16, 10);
        word("repeat 7 set 16=10*word 16", 16, 100000000, 16, 10);
        floods("repeat 8 set 16=10*word 16", 16, 10);
        // short: "bounds as above"
        int[][] shorts = {{TOP, 0, 3}, {TOP, 1, 6}, {-TOP, 0, 3}, {-TOP, -1, 6}, {TOP - 9999, 9999, 3}, {TOP - 9998, 9999, 6},
            {9999 - TOP, -9999, 3}, {9998 - TOP, -9999, 6}};
        for (int[] s : shorts) {
            TeaNight x = new TeaNight();
            Due.job(x, "set 16=1", 1);
            x.old(16, s[0]);
            x.shorter(0, 1, 0, s[1]);
            x.way(0, 1);
            x.minutes(1);
            Due.same("state of old " + s[0] + " and " + s[1], x.look(0, 0), s[2]);
            Due.same("its word", x.word(16), s[2] == 3 ? s[0] + s[1] : 0);
            Due.same("its writings", x.count(2), s[2] == 3 ? 1 : 0);
        }
    }

    // "What was written ahead of that stays. Each set, sum, round that does not FAIL is one WRITING."
    private static void staysAhead() {
        String[] failing = {"set 20=999999*999999", "sum 20 from 0 to 1", "round 21 by 2", "stop if 1<2",
            "repeat 2 set 20=1000*word 0"};
        for (String line : failing) {
            TeaNight x = done("set 16=5;round 16 by 2;sum 17 from 16 to 16;" + line + ";set 18=1", 0, TOP, 1, TOP, 21, TOP);
            Due.same("state behind " + line, x.look(0, 0), 6);
            Due.same("it was done", x.look(0, 6), 1);
            Due.same("it failed", x.look(0, 7), 1);
            Due.same("set ahead", x.word(17), 6);
            Due.same("writings ahead", x.count(2), 3 + 3);
            Due.same("the word that failed", x.word(20), 0);
            Due.same("that behind", x.led(18, 480), -2);
            Due.same("led", x.led(16, 1), 0);
        }
        TeaNight y = new TeaNight();
        Due.job(y, "set 16=1;set 18=1;set 17=1", 1);
        y.old(17, TOP);
        y.shorter(0, 1, 0, 1);
        y.way(0, 1);
        y.minutes(1);
        Due.same("short, by numbers: 16 is ahead", y.word(16), 1);
        Due.same("17 fails", y.led(17, 480), -2);
        Due.same("18 is behind", y.led(18, 480), -2);
        Due.same("state", y.look(0, 0), 6);
    }

    // "SUMS are as they are, however great they are between."
    private static void greatSums() {
        String most = "999999*word 0+";
        word("set 16=" + most + most + most + "7-999999*word 0-999999*word 0-999999*word 0", 16, 7, 0, TOP);
        word("set 16=5+" + most.repeat(10) + "999999*word 1+" + "999999*word 1+".repeat(9) + "0", 16, 5, 0, TOP, 1, -TOP);
        // 25 parts of 999999 times 999999999 are near 25 times 10 to the 15
        TeaNight x = new TeaNight();
        x.tell(0, TOP);
        Due.job(x, "ask if " + most.repeat(12) + "1>" + most.repeat(12) + "0", 1);
        Due.job(x, "ask if " + most.repeat(12) + "0>" + most.repeat(12) + "0", 1);
        Due.job(x, "ask if " + most.repeat(13) + "0>" + most.repeat(12) + "0", 1);
        Due.job(x, "ask if 0-999999*word 0<0", 1);
        Due.job(x, "ask if 3*word 0<0", 1);
        Due.job(x, "ask if 5*word 0>999999", 1);
        x.minutes(6);
        int[] want = {1, 0, 1, 1, 0, 1};
        for (int i = 0; i < want.length; i++) {
            Due.same("great sum " + i, x.look(i, 8), want[i]);
        }
    }

    // "SUM: PART { + PART | - PART }": each part by the sign ahead of it alone
    private static void parts() {
        word("set 16=1-2+3", 16, 2);
        word("set 16=1+2-3", 16, 0);
        word("set 16=1-2-3", 16, -4);
        word("set 16=10-2*3+4*5-6", 16, 18);
        word("set 16=0-3*word 0+2*word 0", 16, -7, 0, 7);
        word("set 16=0-1*word 0", 16, 7, 0, -7);
        word("set 16=5-0*word 0", 16, 5, 0, TOP);
    }

    // "SUM < SUM | SUM > SUM": neither holds of equals; ALL binds ahead of or
    private static void conditions() {
        Object[][] all = {{"1<2", 1}, {"2<2", 0}, {"2<1", 0}, {"2>1", 1}, {"2>2", 0}, {"1>2", 0}, {"not 2<2", 1}, {"not 2>2", 1},
            {"1<2 or 2<1 and 2<1", 1}, {"2<1 and 2<1 or 1<2", 1}, {"(1<2 or 1<2) and 2<1", 0}, {"1<2 and 2<1 or 1<2 and 1<2", 1},
            {"2<1 or 2<1", 0}, {"1<2 and 1<2", 1}, {"1<2 and 1<2 and 2<1", 0}, {"2<1 and 1<2 and 1<2", 0}, {"not(1<2 and 2<1)", 1},
            {"not 1<2 and 2<1", 0}, {"not 2<1 or 1<2", 1}, {"not not 1<2", 1}, {"not not not 1<2", 0}, {"not 1<2 or 1<2", 1},
            {"1+2<2*2", 1}, {"2-3<0", 1}, {"0-1>0-2", 1}, {"2<1 or 1<2 or 2<1", 1}, {"1<2 or 2<1 or 2<1 and 2<1", 1}};
        for (Object[] c : all) {
            TeaNight x = done("ask if " + c[0]);
            Due.same("ask if " + c[0], x.look(0, 8), (Integer) c[1]);
        }
        // each way that three tests may come out, told by < and by >
        for (int i = 0; i < 16; i++) {
            boolean a = (i & 1) != 0;
            boolean b = (i & 2) != 0;
            boolean c = (i & 4) != 0;
            String[] t = new String[3];
            for (int j = 0; j < 3; j++) {
                boolean holds = (i >> j & 1) != 0;
                t[j] = i < 8 ? holds ? "1<2" : "2<2" : holds ? "2>1" : "2>2";
            }
            holds(t[0] + " and " + t[1] + " and " + t[2], a && b && c);
            holds(t[0] + " or " + t[1] + " or " + t[2], a || b || c);
            holds(t[0] + " and " + t[1] + " or " + t[2], a && b || c);
            holds(t[0] + " or " + t[1] + " and " + t[2], a || b && c);
            holds("(" + t[0] + " or " + t[1] + ")and " + t[2], (a || b) && c);
            holds(t[0] + " and(" + t[1] + " or " + t[2] + ")", a && (b || c));
            holds("not " + t[0] + " and " + t[1] + " or not " + t[2], !a && b || !c);
            holds("not(" + t[0] + " or not " + t[1] + ")or " + t[2], !(a || !b) || c);
        }
    }

    private static void holds(String c, boolean want) {
        Due.same("ask if " + c, done("ask if " + c).look(0, 8), want ? 1 : 0);
        Due.same("stop if " + c, done("stop if " + c).look(0, 0), want ? 6 : 2);
    }

    // "ask: if C it is ASKED once more": each of its lines counts, and what failed behind it does not undo it
    private static void asked() {
        TeaNight x = done("ask if 1<2;ask if 2<1;ask if 1<2;stop if 1<2;ask if 1<2");
        Due.same("asked", x.look(0, 8), 2);
        Due.same("asked in all", x.count(7), 2);
        x.again(0);
        x.minutes(1);
        Due.same("asked again", x.look(0, 8), 4);
        x.shorter(0, 1, 0, 0);
        x.again(0);
        x.way(0, 1);
        x.minutes(1);
        Due.same("short does no text", x.look(0, 8), 4);
        Due.same("and does not fail", x.look(0, 0), 3);
        x.again(0);
        x.way(0, 2);
        x.minutes(3);
        Due.same("by hand", x.look(0, 8), 6);
        Due.same("failed by hand", x.look(0, 7), 3);
    }

    // "stop: if C the job FAILS there"
    private static void stops() {
        TeaNight x = done("set 16=1;stop if word 16>1;set 17=1;stop if word 17>0;set 18=1");
        Due.same("state", x.look(0, 0), 6);
        Due.same("behind a stop that did not hold", x.word(17), 1);
        Due.same("behind one that held", x.word(18), 0);
        TeaNight y = done("stop if 2<1");
        Due.same("a stop that does not hold", y.look(0, 0), 2);
        Due.same("a stop that holds", done("stop if 1<2").look(0, 0), 6);
    }

    private static void named(String text, long reads, long writes) {
        TeaNight x = new TeaNight();
        Due.job(x, text, 1);
        Due.same("what it reads: " + text, x.words(0, false), reads);
        Due.same("what it writes: " + text, x.words(0, true), writes);
    }

    private static long bits(int... words) {
        long bits = 0;
        for (int word : words) {
            bits |= 1L << word;
        }
        return bits;
    }

    // "READS: the WORDS that it names by word, by from and to, by round, and has not named by set, sum or round in a LINE ahead."
    private static void reads() {
        named("", 0, 0);
        named("set 16=1", 0, bits(16));
        named("set 16=old 5+day+weather", 0, bits(16));
        named("set 16=word 16", bits(16), bits(16));
        named("repeat 2 set 16=word 16", bits(16), bits(16));
        named("set 16=1;set 17=word 16", 0, bits(16, 17));
        named("set 17=word 16;set 16=1", bits(16), bits(16, 17));
        named("set 17=word 16;set 16=1;set 18=word 16", bits(16), bits(16, 17, 18));
        named("sum 16 from 1 to 3", bits(1, 2, 3), bits(16));
        named("sum 16 from 16 to 16", bits(16), bits(16));
        named("sum 16 from 15 to 17;sum 18 from 15 to 19", bits(15, 16, 17, 18, 19), bits(16, 18));
        named("set 16=1;sum 17 from 15 to 18", bits(15, 17, 18), bits(16, 17));
        named("sum 16 from 1 to 1;set 17=word 16", bits(1), bits(16, 17));
        named("round 16 by 2", bits(16), bits(16));
        named("set 16=1;round 16 by 2", 0, bits(16));
        named("round 16 by 2;set 17=word 16", bits(16), bits(16, 17));
        named("sum 16 from 0 to 0;round 16 by 2;round 63 by 2", bits(0, 63), bits(16, 63));
        named("ask if word 3<2*word 4 or not(1-word 5>0)", bits(3, 4, 5), 0);
        named("stop if word 63>0", bits(63), 0);
        named("set 16=1;ask if word 16<word 17", bits(17), bits(16));
        named("ask if word 16<1;set 16=1", bits(16), bits(16));
        // also what stands behind a stop, or behind what fails
        named("stop if 1<2;set 16=word 1", bits(1), bits(16));
    }

    // "It LEANS on each other job that WRITES a WORD that it READS."
    private static void leans() {
        TeaNight x = new TeaNight();
        Due.job(x, "set 16=word 16+word 17", 1);
        Due.same("not on itself", x.leans(0), 0);
        Due.job(x, "set 17=1", 1);
        Due.same("on one that came behind it", x.leans(0), 2);
        Due.job(x, "set 17=word 16", 1);
        Due.same("on each", x.leans(0), 6);
        Due.same("on one another", x.leans(2), 1);
        Due.job(x, "set 17=1;set 18=word 17", 1);
        Due.same("not for what it has set ahead", x.leans(3), 0);
        Due.same("but on it", x.leans(0), 14);
        Due.job(x, "ask if word 15>0", 1);
        x.tell(15, 1);
        Due.same("not on what is told", x.leans(4), 0);
        for (int i = 5; i < 12; i++) {
            Due.job(x, "sum 63 from 16 to 18", 1);
        }
        Due.same("on all that write 16 to 18", x.leans(11), 15);
        Due.same("none on the last", x.leans(0), 14);
        // an 11th and a 12th job
        TeaNight y = new TeaNight();
        Due.job(y, "set 16=word 40+word 41", 1);
        for (int i = 1; i < 10; i++) {
            Due.job(y, "", 1);
        }
        Due.job(y, "set 40=1", 1);
        Due.job(y, "set 41=1", 1);
        Due.same("on jobs 10 and 11", y.leans(0), 1 << 10 | 1 << 11);
    }

    // "QUARREL: two jobs that WRITE one WORD."
    private static void quarrels() {
        TeaNight x = new TeaNight();
        Due.same("none without jobs", x.quarrel(0), NONE);
        Due.job(x, "set 16=1;set 17=1;set 16=2", 1);
        Due.same("not with itself", x.quarrel(0), NONE);
        Due.job(x, "set 18=1", 1);
        Due.same("none", x.quarrel(0), NONE);
        Due.job(x, "set 16=1;set 17=1", 1);
        Due.same("one of two words", x.quarrel(0), 2);
        Due.same("once", x.quarrel(1), NONE);
        Due.job(x, "set 17=1;set 18=1", 1);
        int[] want = {2, 3, 12 + 3, 24 + 3};
        for (int i = 0; i < want.length; i++) {
            Due.same("quarrel " + i, x.quarrel(i), want[i]);
        }
        Due.same("none such", x.quarrel(4), NONE);
        Due.same("none below 0", x.quarrel(-1), NONE);
        Due.same("none of the least", x.quarrel(Integer.MIN_VALUE), NONE);
        Due.same("none of the greatest", x.quarrel(Integer.MAX_VALUE), NONE);
        TeaNight y = new TeaNight();
        for (int i = 0; i < 12; i++) {
            Due.job(y, "set 63=1", 1);
        }
        Due.same("the first of 66", y.quarrel(0), 1);
        Due.same("the 11th", y.quarrel(10), 11);
        Due.same("the 12th", y.quarrel(11), 14);
        Due.same("the last of 66", y.quarrel(65), 12 * 10 + 11);
        Due.same("no 67th", y.quarrel(66), NONE);
    }

    // "ORDER: place by place the job of the least number that leans on none that has no place yet; none, if some never can be placed."
    private static void order() {
        TeaNight x = new TeaNight();
        Due.same("no jobs", x.order(0), NONE);
        Due.job(x, "set 16=word 17", 1);
        Due.same("one job", x.order(0), 0);
        Due.same("no second place", x.order(1), NONE);
        Due.same("no place below 0", x.order(-1), NONE);
        Due.same("none of the least", x.order(Integer.MIN_VALUE), NONE);
        Due.same("none of the greatest", x.order(Integer.MAX_VALUE), NONE);
        Due.job(x, "set 17=word 18", 1);
        Due.job(x, "set 18=1", 1);
        Due.job(x, "set 19=1", 1);
        // 2 may be placed at once; then 1 may, and is less than 3; then 0
        int[] want = {2, 1, 0, 3, NONE};
        for (int i = 0; i < want.length; i++) {
            Due.same("place " + i, x.order(i), want[i]);
            Due.same("the place of a job", i < 4 ? x.look(want[i], 9) : NONE, i < 4 ? i : NONE);
        }
        Due.job(x, "set 20=word 21", 1);
        Due.same("the last place", x.order(4), 4);
        Due.job(x, "set 21=word 20", 1);
        for (int i = 0; i < 6; i++) {
            Due.same("some never can be placed", x.order(i), NONE);
            Due.same("then none has a place", x.look(i, 9), NONE);
        }
        TeaNight y = new TeaNight();
        for (int i = 0; i < 12; i++) {
            Due.job(y, i < 11 ? "set " + (20 + i) + "=word " + (21 + i) : "set 31=1", 1);
        }
        for (int i = 0; i < 12; i++) {
            Due.same("the last first", y.order(i), 11 - i);
        }
        Due.same("no 13th place", y.order(12), NONE);
    }

    // "Each has MINUTES (1 to 60), WORTH (0 to 1000), a SHORT way (..) and HAND MINUTES (0 to 480: 0 none), POINT (0 to 60: 0 none)"
    private static void numbersOfAJob() {
        TeaNight x = new TeaNight();
        Due.job(x, "set 16=1", 60, 1000, 480, 60, false);
        Due.same("worth 1000", x.plan(60, 0), 1000);
        Due.same("60 minutes are not 59", x.plan(59, 479), 0);
        Due.same("480 of clerks", x.plan(0, 480), 1000);
        Due.no("no short way at first", x.way(0, 1));
        x.shorter(0, 0, 1000, 9999);
        Due.no("of 0 minutes none", x.way(0, 1));
        x.shorter(0, 1, 1000, 9999);
        Due.yes("of 1 minute one", x.way(0, 1));
        x.shorter(0, 60, 7, -9999);
        Due.same("its worth is its own", x.plan(60, 0), 1000);
        x.way(0, 0);
        x.minutes(60);
        Due.same("it ends in minute 60", x.look(0, 5), 60);
        TeaNight y = new TeaNight();
        Due.job(y, "set 16=1", 1, 0, 0, 0, false);
        Due.no("0 hand minutes are none", y.way(0, 2));
        Due.same("worth 0", y.plan(60, 480), 0);
        y.minutes(1);
        Due.same("it ends in minute 1", y.look(0, 5), 1);
        TeaNight z = new TeaNight();
        Due.job(z, "set 16=1", 1, 0, 1, 0, false);
        Due.yes("1 hand minute is one", z.way(0, 2));
        z.minutes(1);
        Due.same("by hand", z.look(0, 0), 4);
    }
}
