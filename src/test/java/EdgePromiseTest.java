import java.util.function.Supplier;

/**
 * The edges of each promise: the least and the greatest of each number, what is beyond, which exception comes first,
 * and that nothing happens by what is refused. What the answers are is told by the other edge tests.
 */
public final class EdgePromiseTest {
    private static final int TOP = 999999999;
    private static final int NONE = -1;
    private static final int LEAST = Integer.MIN_VALUE;
    private static final int MOST = Integer.MAX_VALUE;

    public static void main(String[] args) {
        promise1();
        promise2();
        promise3();
        promises4And5();
        promises6And7();
        fullOfRings();
        promises8To10();
        promise11();
        promise11Full();
        promise12();
        promise13();
        promises14And15();
        promises16And17();
        promise18();
        promises19And20();
        promises21And22();
        promise23();
        promises24And25();
        promise27();
        promises28To30();
        promises31To34();
        promises35To38();
        promises39To41();
        promises42And43();
        promises44And45();
        promise46();
        fiveHundredAndTwelve();
        Due.finish();
    }

    // "A new object: No jobs; MINUTE 0; BATCH, HEAT, WEIGHT of GOODS 1, PRICES, ROOM of VANS, coin 0."
    private static void promise1() {
        TeaNight x = new TeaNight();
        int[] counts = {0, 0, 0, 0, NONE, 0, 0, 0, 0, 0, 0, 0, 0};
        for (int what = 0; what < counts.length; what++) {
            Due.same("count " + what, x.count(what), counts[what]);
        }
        Edge.due("no job", x, Due.INDEX, y -> y.look(0, 0));
        Edge.due("no worker", x, Due.INDEX, y -> y.pay(0, 0));
        Edge.due("no row", x, Due.ELEMENT, y -> y.tear(0, 0));
        Due.same("no order", x.order(0), NONE);
        Due.same("no quarrel", x.quarrel(0), NONE);
        Due.same("nothing doubted", x.doubted(), 0);
        Due.same("no lamp failed", x.test(0, 15), 0);
        Due.same("nothing torn", x.check(), NONE);
        Due.same("no fault", x.fault(), NONE);
        Due.no("no image", x.back());
        Due.same("nobody is paid", x.wages(), NONE);
        Due.same("an empty tape", x.feed(0, 0, 0, 0, 0), 20);
        for (int good = 0; good < 4; good++) {
            TeaNight y = new TeaNight();
            y.ring(0, good, 9);
            Due.same("batch and heat 1", y.fill(false), 9);
            Due.same("weight 1 and room 0", y.fill(true), 9);
            Due.same("price and coin 0", y.cost(good), 0);
            y.ring(1, good, 8);
            y.ring(2, good, 7);
            Due.same("no room in any van", y.fill(true), 9);
        }
    }

    // "Twenty bytes come behind the TAPE, of each number the highest first: how many it has; NONE, and none come, if it would have more than 400."
    private static void promise2() {
        TeaNight x = new TeaNight();
        for (int n = 20; n <= 400; n += 20) {
            Due.same("feed", x.feed(-1, LEAST, MOST, 0, 1), n);
        }
        Due.same("more than 400", x.feed(0, 0, 0, 0, 0), NONE);
        Due.same("more than 400", x.feed(0, 0, 0, 0, 0), NONE);
        Due.no("none come", x.end(401));
        Due.yes("it has 400", x.end(400));
        x.end(381);
        Due.same("401", x.feed(0, 0, 0, 0, 0), NONE);
        Due.no("none come", x.end(382));
        x.end(380);
        Due.same("400", x.feed(0, 0, 0, 0, 0), 400);
        Edge.nothing("a feed above 400", NONE, () -> {
            TeaNight y = Edge.busyWithoutTape();
            for (int i = 0; i < 20; i++) {
                y.feed(0x20202020, 0x20202020, 0x20202020, 0x20202020, 0x20202020);
            }
            return y;
        }, y -> y.feed(0x73657420, 0, 0, 0, 0));
        // the bytes of five numbers, one behind the other: "set 16=1+2+3+4+5;   "
        TeaNight y = new TeaNight();
        y.feed(0x73657420, 0x31363d31, 0x2b322b33, 0x2b342b35, 0x20202020);
        Due.same("five numbers", y.job(1, 0, 0, 0, false), 0);
        y.minutes(1);
        Due.same("1 to 5", y.word(16), 15);
        // they come behind what is there
        y.feed(0x73657420, 0x31373d31, 0x30000000, 0, 0);
        y.end(9);
        Due.same("behind 9", y.feed(0x30303b73, 0x65742031, 0x383d3720, 0x20202020, 0x20202020), 29);
        Due.same("set 17=1000;set 18=7", y.job(1, 0, 0, 0, false), 1);
        y.minutes(1);
        Due.same("17", y.word(17), 1000);
        Due.same("18", y.word(18), 7);
        // bytes above 127, and below 0 as numbers
        y.feed(0xff202020, 0, 0, 0, 0);
        Edge.due("a byte of 255", y, Due.ARGUMENT, z -> z.job(1, 0, 0, 0, false));
        Due.same("is the first wrong one", y.fault(), 0);
        y.feed(0x202020ff, 0, 0, 0, 0);
        Edge.due("a byte of 255", y, Due.ARGUMENT, z -> z.job(1, 0, 0, 0, false));
        Due.same("is the fourth", y.fault(), 3);
    }

    // "The TAPE has its first n bytes alone: true; false, and nothing happens, if it has fewer, or n is below 0."
    private static void promise3() {
        TeaNight x = new TeaNight();
        Due.yes("0 of none", x.end(0));
        Due.no("1 of none", x.end(1));
        Due.no("below 0", x.end(-1));
        x.feed(0, 0, 0, 0, 0);
        Due.no("21 of 20", x.end(21));
        Due.yes("20 of 20", x.end(20));
        Due.yes("19 of 20", x.end(19));
        Due.no("20 of 19", x.end(20));
        Due.yes("0 of 19", x.end(0));
        Due.no("1 of none", x.end(1));
        Edge.nothing("an end beyond", false, Edge::busy, y -> y.end(-1), y -> y.end(43), y -> y.end(400), y -> y.end(401), y -> y.end(LEAST),
                y -> y.end(MOST));
    }

    private static void promises4And5() {
        Edge.numbers("the day", Due.ARGUMENT, 0, 6, (x, n) -> Edge.day(x, n, 3));
        Edge.numbers("the weather", Due.ARGUMENT, 0, 9, (x, n) -> Edge.day(x, 3, n));
        TeaNight x = new TeaNight();
        x.day(6, 9);
        Edge.due("a wrong day", x, Due.ARGUMENT, y -> Edge.day(y, 7, 0));
        Edge.due("a wrong weather", x, Due.ARGUMENT, y -> Edge.day(y, 0, 10));
        Due.job(x, "set 16=day;set 17=weather", 1);
        x.minutes(1);
        Due.same("the day stays", x.word(16), 6);
        Due.same("the weather stays", x.word(17), 9);
        x.day(0, 0);
        Due.same("what was written stays", x.word(17), 9);
        x.again(0);
        x.minutes(1);
        Due.same("the day when it is done", x.word(16), 0);

        Edge.places("old", 64, (y, n) -> Edge.old(y, n, 1));
        Edge.numbers("old's number", Due.ARGUMENT, -TOP, TOP, (y, n) -> Edge.old(y, 36, n));
        Edge.nothing("no word first", Due.INDEX, Edge::busy, y -> Edge.old(y, 64, TOP + 1), y -> Edge.old(y, -1, LEAST));
        TeaNight z = new TeaNight();
        z.old(0, TOP);
        z.old(63, -TOP);
        z.old(16, 5);
        z.old(16, 6);
        Due.job(z, "set 16=old 0;set 17=old 63;set 18=old 16;set 19=old 62", 1);
        z.minutes(1);
        Due.same("old 0", z.word(16), TOP);
        Due.same("old 63", z.word(17), -TOP);
        Due.same("the latest", z.word(18), 6);
        Due.same("another", z.word(19), 0);
    }

    private static void promises6And7() {
        Edge.places("a ring of shop", 4, (x, n) -> x.ring(n, 0, 1));
        Edge.places("a ring of good", 4, (x, n) -> x.ring(0, n, 1));
        Edge.numbers("a ring's number", Due.ARGUMENT, 0, 99999, (x, n) -> x.ring(0, 0, n));
        Edge.nothing("no shop first", Due.INDEX, Edge::busy, x -> x.ring(4, 0, -1), x -> x.ring(0, 4, 100000), x -> x.ring(-1, -1, -1));
        Edge.places("a telling of word", 64, (x, n) -> x.tell(n, 1));
        Edge.numbers("a telling's number", Due.ARGUMENT, -TOP, TOP, (x, n) -> x.tell(0, n));
        Edge.nothing("no word first", Due.INDEX, Edge::busy, x -> x.tell(64, TOP + 1), x -> x.tell(-1, LEAST));
        TeaNight x = new TeaNight();
        Due.same("the first", x.ring(0, 0, 99999), 1);
        Due.same("the second", x.tell(63, -TOP), 2);
        Due.same("both", x.count(6), 2);
    }

    // "NONE, and nothing is written, if there are 400"
    private static void fullOfRings() {
        TeaNight x = new TeaNight();
        for (int i = 1; i <= 399; i++) {
            Due.same("ring or telling", i % 3 == 0 ? x.tell(16 + i % 8, i) : x.ring(i % 4, i % 3, i), i);
        }
        Due.same("the 400th", x.tell(30, 5), 400);
        Due.same("a 401st telling", x.tell(30, 6), NONE);
        Due.same("a 401st ring", x.ring(3, 3, 6), NONE);
        Due.same("nothing is told", x.word(30), 5);
        Due.same("nothing is rung", x.word(15), 0);
        Due.same("nothing is written", x.count(2), 400);
        Due.same("as", x.as(30, 480), 5);
        Due.same("led", x.led(15, 480), -2);
        Due.same("row 7", x.tear(7, 0), 5);
        Due.same("rings and tellings", x.count(6), 400);
        Edge.due("a wrong 401st", x, Due.ARGUMENT, y -> y.ring(0, 0, 100000));
        Edge.due("a wrong 401st", x, Due.ARGUMENT, y -> y.tell(0, TOP + 1));
        Edge.due("a 401st of no shop", x, Due.INDEX, y -> y.ring(4, 0, 0));
        Edge.due("a 401st of no word", x, Due.INDEX, y -> y.tell(64, 0));
        Due.job(x, "set 20=1;set 21=2", 1);
        x.minutes(1);
        Due.same("jobs still write", x.count(2), 402);
        Due.same("a 401st still", x.tell(30, 7), NONE);
        Due.same("it stays", x.count(6), 400);
    }

    private static void promises8To10() {
        Edge.places("word", 64, TeaNight::word);
        Edge.places("as", 64, (x, n) -> x.as(n, 3));
        Edge.places("led", 64, (x, n) -> x.led(n, 3));
        Edge.nothing("no word in any minute", Due.INDEX, Edge::busy, x -> x.as(64, LEAST), x -> x.as(-1, MOST), x -> x.led(64, -1),
                x -> x.led(-1, 481));
        Edge.nothing("as ahead of all", 0, Edge::busy, x -> x.as(0, -1), x -> x.as(0, LEAST), x -> x.as(62, MOST), x -> x.as(62, 480));
        Edge.nothing("led ahead of all", -2, Edge::busy, x -> x.led(0, -1), x -> x.led(0, LEAST), x -> x.led(62, MOST), x -> x.led(20, 2));
        Edge.nothing("led by none", NONE, Edge::busy, x -> x.led(0, 0), x -> x.led(0, MOST), x -> x.led(10, 480), x -> x.led(5, 0));
        Edge.nothing("led by job 0", 0, Edge::busy, x -> x.led(20, 3), x -> x.led(36, 480), x -> x.led(36, MOST));
    }

    // "Uses the TAPE up: a job: its number. IllegalArgumentException: a number is none, then: the text is wrong"
    private static void promise11() {
        Supplier<TeaNight> night = () -> {
            TeaNight x = Edge.busyWithoutTape();
            Due.feed(x, "set 40=1");
            return x;
        };
        wrongNumbers(night, 1, 60, (x, n) -> x.job(n, 0, 0, 0, false));
        wrongNumbers(night, 0, 1000, (x, n) -> x.job(1, n, 0, 0, false));
        wrongNumbers(night, 0, 480, (x, n) -> x.job(1, 0, n, 0, false));
        wrongNumbers(night, 0, 60, (x, n) -> x.job(1, 0, 0, n, false));
        // a wrong text changes nothing but the tape and fault(): the twin has the same fault by the same text, read once
        TeaNight x = new TeaNight();
        Due.feed(x, "set 40=?");
        Edge.due("a wrong text", x, Due.ARGUMENT, y -> y.job(1, 0, 0, 0, false));
        Due.same("its fault", x.fault(), 7);
        Due.same("no job", x.count(1), 0);
        Due.no("the tape is used up", x.end(1));
        Due.same("the tape is used up", x.feed(0, 0, 0, 0, 0), 20);
        x.end(0);
        Due.feed(x, "set");
        Edge.due("a number that is none goes first", x, Due.ARGUMENT, y -> y.job(0, 0, 0, 0, false));
        Due.same("and its text is not read", x.fault(), 7);
        Due.no("but used up", x.end(1));
        Due.same("the first job is 0", Due.job(x, "set 40=1", 1), 0);
        Due.same("the next is 1", Due.job(x, "set 40=1", 1), 1);
        Edge.nothingButTape("a wrong text", Due.ARGUMENT, () -> {
            TeaNight y = Edge.busyWithoutTape();
            Due.feed(y, "set 1");
            return y;
        }, y -> y.job(1, 0, 0, 0, false));
    }

    private static void wrongNumbers(Supplier<TeaNight> night, int least, int most, Edge.AskOf call) {
        for (int n : new int[] {least, most}) {
            Edge.due("a job of " + n, night.get(), 4, x -> call.on(x, n));
        }
        for (int n : new int[] {least - 1, most + 1, LEAST, MOST}) {
            Edge.nothingButTape("a job of " + n, Due.ARGUMENT, night, x -> call.on(x, n));
        }
    }

    // "UnsupportedOperationException: there are 12", the last that is told
    private static void promise11Full() {
        Supplier<TeaNight> night = () -> {
            TeaNight x = Edge.busyWithoutTape();
            for (int i = 4; i < 12; i++) {
                Due.same("job", Due.job(x, "", 1), i);
            }
            return x;
        };
        Edge.nothingButTape("a 13th", Due.UNSUPPORTED, () -> fedWith(night.get(), "set 40=1"), x -> x.job(1, 0, 0, 0, false));
        Edge.nothingButTape("a 13th without a text", Due.UNSUPPORTED, night, x -> x.job(60, 1000, 480, 60, true));
        TeaNight x = fedWith(night.get(), "set 40=?");
        Edge.due("a wrong 13th", x, Due.ARGUMENT, y -> y.job(1, 0, 0, 0, false));
        Due.same("its fault", x.fault(), 7);
        Due.feed(x, "set 40=1");
        Edge.due("a 13th of a wrong number", x, Due.ARGUMENT, y -> y.job(1, 1001, 0, 0, false));
        Due.same("it was not read", x.fault(), 7);
        Due.feed(x, "set 40=1");
        Edge.due("a 13th", x, Due.UNSUPPORTED, y -> y.job(1, 0, 0, 0, false));
        Due.same("it was read", x.fault(), NONE);
        Due.no("and used up", x.end(1));
        Due.same("jobs", x.count(1), 12);
        Edge.due("no 13th", x, Due.INDEX, y -> y.look(12, 0));
        Due.same("the 12th", x.look(11, 0), 0);
    }

    private static TeaNight fedWith(TeaNight x, String text) {
        Due.feed(x, text);
        return x;
    }

    // "The first wrong byte of the latest text that was read; NONE without one, and ahead of any."
    private static void promise12() {
        TeaNight x = new TeaNight();
        Due.same("ahead of any", x.fault(), NONE);
        Due.feed(x, "?");
        Due.same("not read yet", x.fault(), NONE);
        Edge.due("read", x, Due.ARGUMENT, y -> y.job(1, 0, 0, 0, false));
        Due.same("the first byte", x.fault(), 0);
        Due.feed(x, "set 16=1");
        Due.same("of the latest that was read", x.fault(), 0);
        x.end(7);
        Edge.due("read", x, Due.ARGUMENT, y -> y.job(1, 0, 0, 0, false));
        Due.same("the text's length", x.fault(), 7);
        Due.job(x, "", 1);
        Due.same("an empty text", x.fault(), NONE);
    }

    private static void promise13() {
        Edge.places("shorter", 4, (x, n) -> Edge.shorter(x, n, 1, 1, 1));
        Edge.numbers("its minutes", Due.ARGUMENT, 0, 60, (x, n) -> Edge.shorter(x, 3, n, 1, 1));
        Edge.numbers("its worth", Due.ARGUMENT, 0, 1000, (x, n) -> Edge.shorter(x, 3, 1, n, 1));
        Edge.numbers("so much", Due.ARGUMENT, -9999, 9999, (x, n) -> Edge.shorter(x, 3, 1, 1, n));
        Edge.nothing("no job first", Due.INDEX, Edge::busy, x -> Edge.shorter(x, 4, 61, 0, 0), x -> Edge.shorter(x, -1, 0, 1001, 0),
                x -> Edge.shorter(x, 4, 0, 0, 10000));
        // in any state
        TeaNight x = Edge.busy();
        for (int job = 0; job < 4; job++) {
            x.shorter(job, 1, 2, 3);
        }
        Due.yes("one that waits", x.way(3, 1));
        x.again(0);
        Due.yes("one that had ended", x.way(0, 1));
    }

    private static void promises14And15() {
        Edge.places("words", 4, (x, n) -> x.words(n, false));
        Edge.places("words", 4, (x, n) -> x.words(n, true));
        Edge.places("leans", 4, (x, n) -> x.leans(n));
        Edge.nothing("without jobs", Due.INDEX, TeaNight::new, x -> x.words(0, false), x -> x.words(0, true), x -> x.leans(0));
    }

    private static void promises16And17() {
        Edge.nothing("no such quarrel", NONE, Edge::busy, x -> x.quarrel(-1), x -> x.quarrel(1), x -> x.quarrel(66), x -> x.quarrel(LEAST),
                x -> x.quarrel(MOST));
        Edge.nothing("quarrel 0", 12 + 3, Edge::busy, x -> x.quarrel(0));
        Edge.nothing("no such place", NONE, Edge::busy, x -> x.order(-1), x -> x.order(4), x -> x.order(12), x -> x.order(LEAST),
                x -> x.order(MOST));
        int[] order = {0, 1, 3, 2};
        for (int i = 0; i < 4; i++) {
            int place = i;
            Edge.nothing("place " + i, order[i], Edge::busy, x -> x.order(place));
        }
    }

    // "true; false, and nothing happens, if it does not wait, or it has no such way. IllegalArgumentException: another one."
    private static void promise18() {
        Edge.places("a way", 4, (x, n) -> x.way(n, 0));
        Edge.numbers("how", Due.ARGUMENT, 0, 2, (x, n) -> x.way(3, n));
        Edge.nothing("no job first", Due.INDEX, Edge::busy, x -> x.way(4, 3), x -> x.way(-1, -1));
        Edge.nothing("another how of one that does not wait", Due.ARGUMENT, Edge::busy, x -> x.way(0, 3), x -> x.way(1, -1), x -> x.way(2, 3));
        Edge.nothing("one that does not wait", false, Edge::busy, x -> x.way(0, 0), x -> x.way(0, 2), x -> x.way(1, 0), x -> x.way(1, 1));
        Edge.nothing("one that a clerk has begun", false, Edge::busy, x -> x.way(2, 0), x -> x.way(2, 2));
        Edge.nothing("no such way", false, () -> {
            TeaNight x = Edge.busy();
            x.shorter(3, 0, 8, -2);
            return x;
        }, x -> x.way(3, 1));
        Edge.nothing("no hand minutes", false, () -> jobs(0, 2), x -> x.way(0, 2));
    }

    /** A night of some jobs that wait. */
    private static TeaNight jobs(int hand, int many) {
        TeaNight x = new TeaNight();
        for (int i = 0; i < many; i++) {
            Due.job(x, "set " + (16 + i) + "=1", 2, 5, hand, 0, false);
        }
        return x;
    }

    private static void promises19And20() {
        Edge.places("drop", 4, TeaNight::drop);
        Edge.nothing("a drop of one that does not wait", false, Edge::busy, x -> x.drop(0), x -> x.drop(1));
        Edge.nothing("a second drop", false, () -> {
            TeaNight x = Edge.busy();
            x.drop(3);
            return x;
        }, x -> x.drop(3));
        Edge.places("again", 4, TeaNight::again);
        Edge.nothing("again of one that runs or waits", false, Edge::busy, x -> x.again(1), x -> x.again(2), x -> x.again(3));
    }

    private static void promises21And22() {
        Edge.numbers("out", Due.ARGUMENT, 1, 60, TeaNight::out);
        Edge.nothing("above 480", Due.STATE, () -> {
            TeaNight x = Edge.busy();
            for (int i = 0; i < 7; i++) {
                x.out(60);
            }
            Due.same("out", x.out(29), 451);
            return x;
        }, x -> x.out(30), x -> x.out(60));
        Edge.nothing("a wrong number first", Due.ARGUMENT, () -> {
            TeaNight x = Edge.busy();
            for (int i = 0; i < 7; i++) {
                x.out(60);
            }
            return x;
        }, x -> x.out(61), x -> x.out(0), x -> x.out(MOST));
        Edge.numbers("minutes", Due.ARGUMENT, 0, 120, TeaNight::minutes);
        Edge.nothing("no minutes", 5, Edge::busy, x -> x.minutes(0));
        Edge.nothing("minutes behind the last", 480, () -> {
            TeaNight x = Edge.busy();
            for (int i = 0; i < 4; i++) {
                x.minutes(120);
            }
            return x;
        }, x -> x.minutes(0), x -> x.minutes(1), x -> x.minutes(120));
        Edge.nothing("wrong minutes behind the last", Due.ARGUMENT, () -> {
            TeaNight x = Edge.busy();
            for (int i = 0; i < 4; i++) {
                x.minutes(120);
            }
            return x;
        }, x -> x.minutes(121), x -> x.minutes(-1));
    }

    private static void promise23() {
        Edge.places("look", 4, (x, n) -> x.look(n, 0));
        for (int job = 0; job < 4; job++) {
            int n = job;
            Edge.numbers("look at " + job, Due.ELEMENT, 0, 9, (x, what) -> x.look(n, what));
        }
        Edge.nothing("no job first", Due.INDEX, Edge::busy, x -> x.look(4, 10), x -> x.look(-1, -1));
        Edge.nothing("without jobs", Due.INDEX, TeaNight::new, x -> x.look(0, 0), x -> x.look(0, 10));
    }

    private static void promises24And25() {
        Edge.places("a lamp", 16, (x, n) -> x.lamp(n, 5, 1));
        Edge.numbers("its minute", Due.ARGUMENT, 5, 480, (x, n) -> x.lamp(7, n, 1));
        Edge.nothing("no mask", Due.ARGUMENT, Edge::busy, x -> x.lamp(7, 5, 0));
        Edge.nothing("no lamp first", Due.INDEX, Edge::busy, x -> x.lamp(16, 4, 0), x -> x.lamp(-1, 481, 1));
        Edge.nothing("a wrong one of a lamp that is told", Due.ARGUMENT, Edge::busy, x -> x.lamp(4, 4, 1), x -> x.lamp(4, 5, 0));
        Edge.nothing("a lamp that is told", false, Edge::busy, x -> x.lamp(4, 5, 1), x -> x.lamp(4, 9, 16), x -> x.lamp(1, 480, -1));
        Edge.nothing("one that has failed", false, () -> {
            TeaNight x = Edge.busy();
            x.minutes(6);
            return x;
        }, x -> x.lamp(4, 11, 1));
        Edge.places("a test from", 16, (x, n) -> x.test(n, 15));
        Edge.places("a test to", 16, (x, n) -> x.test(0, n));
        Edge.nothing("the latter below the former", Due.ARGUMENT, Edge::busy, x -> x.test(1, 0), x -> x.test(15, 14), x -> x.test(15, 0));
        Edge.nothing("no lamp first", Due.INDEX, Edge::busy, x -> x.test(16, 0), x -> x.test(15, -1), x -> x.test(16, 15));
        for (int lamp = 0; lamp < 16; lamp++) {
            int n = lamp;
            Edge.due("each alone", Edge.busy(), 0, x -> x.test(n, n));
        }
    }

    private static void promise27() {
        Edge.places("doubt", 4, (x, n) -> x.doubt(n, 0));
        Edge.places("beyond doubt", 4, (x, n) -> x.doubt(n, 1));
        Edge.numbers("doubt of", Due.ELEMENT, 0, 1, (x, n) -> x.doubt(0, n));
        Edge.nothing("no job first", Due.INDEX, Edge::busy, x -> x.doubt(4, 2), x -> x.doubt(-1, -1));
        Edge.nothing("what is doubted", 1L << 20 | 1L << 36, Edge::busy, TeaNight::doubted);
    }

    private static void promises28To30() {
        Edge.places("wanted of shop", 4, (x, n) -> x.wanted(n, 0, 2, 0, 1));
        Edge.places("wanted of good", 4, (x, n) -> x.wanted(0, n, 2, 0, 1));
        Edge.numbers("wanted on a day", Due.ARGUMENT, 0, 6, (x, n) -> x.wanted(0, 0, n, 0, 1));
        Edge.numbers("wanted in a weather", Due.ARGUMENT, 0, 9, (x, n) -> x.wanted(0, 0, 2, n, 1));
        Edge.numbers("wanted so many", Due.ARGUMENT, 0, 99999, (x, n) -> x.wanted(0, 0, 2, 0, n));
        Edge.nothing("no shop first", Due.INDEX, Edge::busy, x -> x.wanted(4, 0, 7, 0, 0), x -> x.wanted(0, -1, 0, 10, 0),
                x -> x.wanted(-1, 4, 0, 0, -1));
        Edge.nothing("a 101st", NONE, () -> {
            TeaNight x = new TeaNight();
            x.day(2, 0);
            for (int i = 1; i <= 100; i++) {
                Due.same("wanted", x.wanted(i % 4, i % 3, 2, i % 10, 3 * i), i);
            }
            return x;
        }, x -> x.wanted(0, 0, 2, 0, 0), x -> x.wanted(1, 2, 2, 9, 99999));
        Edge.places("foretell of shop", 4, (x, n) -> x.foretell(n, 0, 0));
        Edge.places("foretell of good", 4, (x, n) -> x.foretell(0, n, 0));
        Edge.numbers("foretell", Due.ELEMENT, 0, 3, (x, n) -> x.foretell(0, 0, n));
        Edge.nothing("no what without any", Due.ELEMENT, Edge::busy, x -> x.foretell(3, 3, 4), x -> x.foretell(3, 3, -1));
        Edge.nothing("no shop first", Due.INDEX, Edge::busy, x -> x.foretell(4, 0, 4), x -> x.foretell(0, 4, -1), x -> x.foretell(-1, 0, 4));
        Edge.nothing("foretold of none", NONE, Edge::busy, x -> x.foretell(3, 3, 0), x -> x.foretell(3, 3, 1), x -> x.foretell(3, 3, 2));
        Edge.places("far of shop", 4, (x, n) -> x.far(n, 0));
        Edge.places("far of good", 4, (x, n) -> x.far(0, n));
    }

    private static void promises31To34() {
        Edge.places("good", 4, (x, n) -> Edge.good(x, n, 1, 1, 1, 1));
        Edge.numbers("batch", Due.ARGUMENT, 1, 9999, (x, n) -> Edge.good(x, 0, n, 1, 1, 1));
        Edge.numbers("heat", Due.ARGUMENT, 1, 100, (x, n) -> Edge.good(x, 0, 1, n, 1, 1));
        Edge.numbers("weight", Due.ARGUMENT, 1, 100, (x, n) -> Edge.good(x, 0, 1, 1, n, 1));
        Edge.numbers("price", Due.ARGUMENT, 0, 9999, (x, n) -> Edge.good(x, 0, 1, 1, 1, n));
        Edge.nothing("no good first", Due.INDEX, Edge::busy, x -> Edge.good(x, 4, 0, 1, 1, 1), x -> Edge.good(x, -1, 1, 101, 1, 1),
                x -> Edge.good(x, 4, 1, 1, 0, 10000));
        Edge.numbers("room of the first", Due.ARGUMENT, 0, 100000000, (x, n) -> Edge.fleet(x, n, 1, 1, 1, 1));
        Edge.numbers("room of the second", Due.ARGUMENT, 0, 100000000, (x, n) -> Edge.fleet(x, 1, n, 1, 1, 1));
        Edge.numbers("room of the third", Due.ARGUMENT, 0, 100000000, (x, n) -> Edge.fleet(x, 1, 1, n, 1, 1));
        Edge.numbers("coin of ovens", Due.ARGUMENT, 0, 1000000, (x, n) -> Edge.fleet(x, 1, 1, 1, n, 1));
        Edge.numbers("coin of vans", Due.ARGUMENT, 0, 1000000, (x, n) -> Edge.fleet(x, 1, 1, 1, 1, n));
        Edge.places("cost", 4, TeaNight::cost);
        // 52, 28 and 18 in vans of 5, 6 and 7; 7 batches of 2 minutes
        Edge.nothing("fill", 45, Edge::busy, x -> x.fill(true));
        Edge.nothing("fill", 14, Edge::busy, x -> x.fill(false));
    }

    private static void promises35To38() {
        Edge.numbers("hours", Due.ARGUMENT, 0, 99, (x, n) -> x.worker(n, 1));
        Edge.numbers("pence", Due.ARGUMENT, 0, 999, (x, n) -> x.worker(1, n));
        Supplier<TeaNight> twenty = () -> {
            TeaNight x = Edge.busy();
            for (int i = 2; i < 20; i++) {
                Due.same("worker", x.worker(i, i), i);
            }
            return x;
        };
        Edge.nothing("a 21st", Due.UNSUPPORTED, twenty, x -> x.worker(0, 0), x -> x.worker(99, 999));
        Edge.nothing("a wrong 21st", Due.ARGUMENT, twenty, x -> x.worker(-1, 0), x -> x.worker(0, 1000));
        Edge.places("alter", 2, (x, n) -> x.alter(n, 1, 1));
        Edge.numbers("altered to", Due.ARGUMENT, 0, 99, (x, n) -> x.alter(0, n, 1));
        Edge.numbers("by a hand", Due.ARGUMENT, 0, 9, (x, n) -> x.alter(0, 1, n));
        Edge.nothing("no worker first", Due.INDEX, Edge::busy, x -> x.alter(2, 100, 1), x -> x.alter(-1, 1, 10));
        Edge.nothing("the same hours", false, Edge::busy, x -> x.alter(0, 44, 9), x -> x.alter(1, 40, 0));
        Edge.nothing("a wrong hand of the same hours", Due.ARGUMENT, Edge::busy, x -> x.alter(0, 44, 10), x -> x.alter(1, 40, -1));
        Edge.places("pay", 2, (x, n) -> x.pay(n, 0));
        Edge.numbers("pay of", Due.ELEMENT, 0, 3, (x, n) -> x.pay(0, n));
        Edge.nothing("no worker first", Due.INDEX, Edge::busy, x -> x.pay(2, 4), x -> x.pay(-1, -1));
        Edge.nothing("wages that may not be paid", NONE, Edge::busy, TeaNight::wages);
        Supplier<TeaNight> paid = () -> {
            TeaNight x = new TeaNight();
            Due.job(x, "set 16=1", 1, 0, 1, 0, true);
            x.worker(41, 3);
            x.worker(1, 1);
            x.minutes(1);
            Due.same("paid", x.wages(), 124 + 1);
            return x;
        };
        Edge.nothing("wages that were paid", NONE, paid, TeaNight::wages);
        Edge.nothing("altered once paid", Due.STATE, paid, x -> x.alter(0, 40, 1), x -> x.alter(0, 41, 1), x -> x.alter(1, 0, 9));
        Edge.nothing("wrongly altered once paid", Due.ARGUMENT, paid, x -> x.alter(0, 100, 1), x -> x.alter(0, 41, 10));
        Edge.nothing("nobody altered once paid", Due.INDEX, paid, x -> x.alter(2, 100, 1), x -> x.alter(-1, 41, 1));
    }

    private static void promises39To41() {
        Edge.numbers("plan for the machine", Due.ARGUMENT, 0, 1000, (x, n) -> x.plan(n, 5));
        Edge.numbers("plan for clerks", Due.ARGUMENT, 0, 1000, (x, n) -> x.plan(5, n));
        Edge.numbers("which for the machine", Due.ARGUMENT, 0, 1000, (x, n) -> x.which(n, 5, 3));
        Edge.numbers("which for clerks", Due.ARGUMENT, 0, 1000, (x, n) -> x.which(5, n, 3));
        Edge.places("which", 4, (x, n) -> x.which(5, 5, n));
        Edge.nothing("no job first", Due.INDEX, Edge::busy, x -> x.which(1001, 0, 4), x -> x.which(0, -1, -1));
        Edge.nothing("not one of those", NONE, Edge::busy, x -> x.which(5, 5, 0), x -> x.which(1000, 1000, 1));
        Edge.nothing("wrong for one not of those", Due.ARGUMENT, Edge::busy, x -> x.which(1001, 5, 0), x -> x.which(0, -1, 1));
        Edge.nothing("one has no hand minutes", NONE, Edge::busy, x -> x.beside(false));
        // 0 until 3, 3 until 12; 1 from 3 until 8, 2 from 12 until 16
        Edge.nothing("with two machines", 16, Edge::busy, x -> x.beside(true));
    }

    private static void promises42And43() {
        Edge.nothing("no such row", Due.ELEMENT, Edge::busy, x -> x.tear(-1, 1), x -> x.tear(7, 1), x -> x.tear(8, 1), x -> x.tear(LEAST, 1),
                x -> x.tear(MOST, 1));
        Edge.nothing("no row at all", Due.ELEMENT, TeaNight::new, x -> x.tear(0, 1), x -> x.tear(-1, 0), x -> x.tear(7, 1));
        Edge.nothing("the least row", 12, Edge::busy, x -> x.tear(0, 0));
        Edge.nothing("the greatest row", 13, Edge::busy, x -> x.tear(6, 0));
        Edge.nothing("torn twice alike", 13, Edge::busy, x -> {
            x.tear(6, -1);
            return x.tear(6, -1);
        });
        Edge.nothing("check", 2, Edge::busy, TeaNight::check);
    }

    private static void promises44And45() {
        Edge.nothing("no image", false, () -> jobs(3, 2), TeaNight::back, TeaNight::back);
        // an image that is kept at once, and gone back to at once
        Edge.nothing("back to where it is", true, () -> {
            TeaNight x = Edge.busy();
            x.image();
            return x;
        }, TeaNight::back, TeaNight::back);
        // all that may change goes back: a busy night, its image, whatever else, and back
        TeaNight one = Edge.busy();
        one.image();
        TeaNight other = Edge.busy();
        other.image();
        spend(other);
        Due.yes("back", other.back());
        // each call alone
        Supplier<TeaNight> kept = () -> {
            TeaNight x = Edge.busy();
            x.image();
            return x;
        };
        Edge.Ask[] calls = {x -> Edge.day(x, 6, 9), x -> Edge.old(x, 20, 5), x -> Edge.old(x, 36, 5), x -> x.ring(1, 0, 55), x -> x.tell(16, 5),
            x -> Edge.shorter(x, 0, 7, 7, 7), x -> Edge.shorter(x, 3, 0, 7, 7), x -> x.way(3, 1), x -> x.drop(3), x -> x.again(0), x -> x.out(9),
            x -> x.minutes(1), x -> x.minutes(120), x -> x.lamp(2, 6, 5), x -> x.test(0, 15), x -> x.wanted(0, 0, 2, 9, 999), x -> Edge.good(x, 0, 9, 8, 7, 6),
            x -> Edge.fleet(x, 9, 8, 7, 6, 5), x -> x.worker(9, 9), x -> x.alter(0, 9, 9), x -> x.tear(0, 3), x -> x.tear(6, 3)};
        for (int i = 0; i < calls.length; i++) {
            Edge.Ask call = calls[i];
            Edge.nothing("back behind call " + i, true, kept, x -> {
                call.on(x);
                return x.back();
            });
        }
        // the tape and the fault are not of the image
        one.end(0);
        other.end(0);
        Due.job(one, "", 1);
        one.back();
        Edge.alike("a night gone back to", one, other);
        TeaNight x = new TeaNight();
        spend(x);
        x.image();
        TeaNight y = new TeaNight();
        spend(y);
        y.image();
        again(y);
        Due.yes("back", y.back());
        Edge.alike("another night gone back to", x, y);
    }

    /** As much of everything as can be. */
    private static void spend(TeaNight x) {
        x.day(6, 9);
        x.old(20, 1);
        x.old(36, 2);
        x.wanted(0, 0, 2, 4, 99);
        x.wanted(1, 2, 2, 4, 98);
        x.good(0, 1, 100, 99, 9);
        x.good(2, 1, 50, 98, 8);
        x.fleet(1, 2, 3, 4, 5);
        x.ring(0, 0, 77);
        x.tell(16, 1);
        Due.job(x, "set 16=word 63;set 17=1;ask if 1<2", 1, 900, 3, 1, true);
        Due.job(x, "set 19=1", 1, 800, 0, 1, false);
        x.worker(20, 20);
        x.alter(0, 1, 1);
        for (int job = 0; job < x.count(1); job++) {
            x.shorter(job, 3, 700, 50);
            x.again(job);
            x.way(job, 1);
        }
        x.lamp(0, x.count(0), 1);
        x.lamp(3, 400, 1);
        x.minutes(20);
        x.test(0, 15);
        x.lamp(3, 401, 1);
        x.tear(0, 9);
        x.wages();
        for (int job = 0; job < x.count(1); job++) {
            x.again(job);
        }
        x.minutes(1);
        x.out(50);
    }

    private static void again(TeaNight x) {
        Due.job(x, "set 63=word 16", 2, 1, 1, 1, true);
        x.day(1, 1);
        x.shorter(0, 0, 1, 1);
        x.shorter(1, 9, 1, 1);
        x.minutes(70);
        x.drop(1);
        x.way(0, 0);
        x.minutes(9);
        x.again(0);
        x.way(0, 2);
        x.minutes(9);
        x.tear(7, 3);
        x.worker(2, 2);
        x.test(0, 15);
        x.good(1, 2, 2, 2, 2);
        x.fleet(9, 9, 9, 9, 9);
        x.old(20, 99);
        x.old(16, 99);
        x.wanted(0, 0, 2, 4, 1);
        x.out(9);
    }

    // "NONE for another what"
    private static void promise46() {
        Edge.nothing("another what", NONE, Edge::busy, x -> x.count(13), x -> x.count(-1), x -> x.count(LEAST), x -> x.count(MOST));
        int[] want = {5, 4, 7, 2, 1, 2, 5, 1, 0, 2, 0, 3, 1};
        for (int i = 0; i < want.length; i++) {
            int what = i;
            Edge.nothing("count " + i, want[i], Edge::busy, x -> x.count(what));
        }
        TeaNight x = new TeaNight();
        x.minutes(120);
        Due.same("0 MINUTE", x.count(0), 120);
        Due.same("4 none runs", x.count(4), NONE);
        x.out(60);
        Due.same("3 out", x.count(3), 60);
    }

    // "An object is used for at most 512 calls": each of them is answered, the last as the first
    private static void fiveHundredAndTwelve() {
        TeaNight x = new TeaNight();
        int calls = 0;
        String text = "set 16=word 16+1;set 17=1;set 18=1;set 19=1;set 20=1;set 21=1;set 22=1;set 23=1;set 24=1;set 25=1";
        int jobs = 12;
        for (int i = 0; i < jobs; i++) {
            Due.feed(x, text);
            Due.same("job", x.job(1, 0, 0, 0, false), i);
            calls += 3 + (text.length() + 19) / 20;
        }
        Due.same("no order, as each leans on all others", x.order(0), NONE);
        for (int i = 0; i < jobs; i++) {
            x.shorter(i, 1, 0, 0);
            x.way(i, 1);
            calls += 2;
        }
        Due.same("no job may begin", x.minutes(1), 1);
        Due.same("none is done", x.count(2), 0);
        calls += 3;
        // told over and over: each telling is one writing
        int told = 0;
        while (calls < 500) {
            x.tell(30, ++told);
            calls++;
        }
        Due.same("as", x.as(30, 480), told);
        Due.same("writings", x.count(2), told);
        Due.same("as ahead", x.as(30, 0), 0);
        // the most writings that can be: by jobs that lean on none, run again and again
        TeaNight y = new TeaNight();
        String free = text.replace("word 16+1", "1");
        calls = 0;
        for (int i = 0; i < jobs; i++) {
            Due.feed(y, free);
            y.job(1, i, 0, 0, false);
            calls += 3 + (free.length() + 19) / 20;
        }
        int rounds = 0;
        int minute = 0;
        while (calls + 13 <= 512 && minute + 12 <= 480) {
            y.minutes(12);
            minute += 12;
            rounds++;
            for (int i = 0; i < jobs; i++) {
                y.again(i);
            }
            calls += 13;
        }
        Due.same("ten writings of each", y.count(2), 120L * rounds);
        Due.same("led by the last", y.led(25, 480), 11);
        Due.same("as of the first minute", y.led(25, 1), 0);
        Due.same("the first of the last round", y.led(16, minute - 11), 0);
        Due.same("rows", y.tear(7, 0), 1);
    }
}
