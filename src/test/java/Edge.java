import java.util.ArrayList;
import java.util.List;
import java.util.function.Supplier;

/**
 * What the edge tests share: calls at the ends of what they may be given, and twins: two nights that went alike, of
 * which one is also given calls that are refused. What both answer from then on must be the same. A twin stays below
 * 512 calls.
 */
final class Edge {
    private static final String FINE = "told";

    private Edge() {
    }

    /** One call of a night. */
    interface Ask {
        Object on(TeaNight x);
    }

    /** One call of a night, with one number of its own. */
    interface AskOf {
        Object on(TeaNight x, int n);
    }

    // ---- calls without an answer, as calls with one

    static Object day(TeaNight x, int day, int weather) {
        x.day(day, weather);
        return FINE;
    }

    static Object old(TeaNight x, int word, int n) {
        x.old(word, n);
        return FINE;
    }

    static Object shorter(TeaNight x, int job, int minutes, int worth, int more) {
        x.shorter(job, minutes, worth, more);
        return FINE;
    }

    static Object good(TeaNight x, int good, int batch, int heat, int weight, int price) {
        x.good(good, batch, heat, weight, price);
        return FINE;
    }

    static Object fleet(TeaNight x, int a, int b, int c, int ovens, int vans) {
        x.fleet(a, b, c, ovens, vans);
        return FINE;
    }

    static Object image(TeaNight x) {
        x.image();
        return FINE;
    }

    // ---- answers

    /** An answer as a text; of an exception its name. */
    static String answer(TeaNight x, Ask ask) {
        try {
            return String.valueOf(ask.on(x));
        } catch (RuntimeException e) {
            return e.getClass().getSimpleName();
        }
    }

    static void due(String what, TeaNight x, Object want, Ask ask) {
        String got = answer(x, ask);
        Due.yes(what + " answered " + got + ", due is " + want + ":", got.equals(named(want)));
    }

    private static String named(Object want) {
        return want instanceof Class<?> ? ((Class<?>) want).getSimpleName() : String.valueOf(want);
    }

    /** Each of these calls answers what is due, and nothing happens by them. */
    static void nothing(String what, Object want, Supplier<TeaNight> night, Ask... calls) {
        TeaNight one = night.get();
        TeaNight other = night.get();
        for (int i = 0; i < calls.length; i++) {
            due(what + ", call " + i, other, want, calls[i]);
        }
        alike(what, one, other);
    }

    /** Likewise, of calls that use the tape up. */
    static void nothingButTape(String what, Object want, Supplier<TeaNight> night, Ask call) {
        TeaNight one = night.get();
        TeaNight other = night.get();
        due(what, other, want, call);
        one.end(0);
        alike(what, one, other);
    }

    /** What both answer from now on is the same. */
    static void alike(String what, TeaNight one, TeaNight other) {
        List<String> want = told(one);
        List<String> got = told(other);
        for (int i = 0; i < want.size(); i++) {
            if (!want.get(i).equals(got.get(i))) {
                Due.yes(what + ": behind it came " + got.get(i) + ", without it " + want.get(i) + ":", false);
                return;
            }
        }
    }

    /** The least and the greatest number are taken; what is beyond is refused, and nothing happens. */
    static void numbers(String what, Class<?> kind, int least, int most, AskOf call) {
        numbers(what, kind, Edge::busy, least, most, call);
    }

    static void numbers(String what, Class<?> kind, Supplier<TeaNight> night, int least, int most, AskOf call) {
        for (int n : new int[] {least, most}) {
            String got = answer(night.get(), x -> call.on(x, n));
            Due.no(what + " of " + n + " answered " + got + ", which throws:", got.endsWith("Exception"));
        }
        nothing(what + " beyond " + least + " to " + most, kind, night, x -> call.on(x, least - 1), x -> call.on(x, most + 1),
                x -> call.on(x, Integer.MIN_VALUE), x -> call.on(x, Integer.MAX_VALUE));
    }

    /** Places 0 to below a count; others throw an IndexOutOfBoundsException. */
    static void places(String what, int count, AskOf call) {
        numbers(what, Due.INDEX, 0, count - 1, call);
    }

    // ---- a night with something of everything

    /** Job 0 has ended, 1 runs, 2 is with a clerk, 3 waits; the machine is out; an image is kept; a text is on the tape. */
    static TeaNight busy() {
        TeaNight x = new TeaNight();
        x.day(2, 5);
        x.old(20, 7);
        x.old(36, -3);
        x.wanted(0, 0, 2, 4, 10);
        x.wanted(0, 0, 2, 6, 21);
        x.wanted(1, 2, 2, 0, 5);
        x.good(0, 3, 2, 4, 5);
        x.good(2, 7, 3, 2, 1);
        x.fleet(5, 6, 7, 101, 77);
        x.ring(0, 0, 12);
        x.ring(1, 0, 7);
        x.ring(2, 2, 9);
        x.tell(5, -4);
        Due.job(x, "set 20=word 0+1;ask if day>1;set 36=old 20", 3, 50, 4, 0, false);
        Due.job(x, "set 17=word 20", 5, 40, 0, 2, true);
        Due.job(x, "set 18=word 17;stop if word 18<0", 4, 30, 6, 0, false);
        Due.job(x, "set 17=1;repeat 2 set 19=word 19+weather", 9, 20, 2, 4, false);
        x.shorter(1, 2, 9, 5);
        x.shorter(3, 1, 8, -2);
        x.worker(45, 11);
        x.worker(40, 7);
        x.alter(0, 44, 3);
        x.way(2, 2);
        x.lamp(4, 1, 9);
        x.lamp(1, 30, 3);
        x.minutes(4);
        x.test(4, 4);
        x.lamp(4, 9, 16);
        x.image();
        x.minutes(1);
        x.tell(0, 13);
        x.tear(2, 5);
        x.out(2);
        Due.feed(x, "set 1");
        answer(x, y -> y.job(1, 1, 1, 1, false));
        Due.feed(x, "set 40=old 36+old 20;set 41=day+10*weather");
        return x;
    }

    /** A busy night of which nothing is on the tape. */
    static TeaNight busyWithoutTape() {
        TeaNight x = busy();
        x.end(0);
        return x;
    }

    // ---- all that a night tells

    private static final int[] TOLD_WORDS = {0, 4, 5, 10, 16, 17, 18, 19, 20, 36, 40, 41, 63};
    private static final int[] LED_WORDS = {0, 17, 18, 20, 36};
    private static final int[] LED_MINUTES = {0, 3, 4, 480};

    private static void add(List<String> all, TeaNight x, String what, Ask ask) {
        all.add(what + " " + answer(x, ask));
    }

    /** What is told without anything happening, then what happens in what follows. */
    static List<String> told(TeaNight x) {
        List<String> all = new ArrayList<>();
        looked(all, x);
        add(all, x, "feed", y -> y.feed(0x20202020, 0x20202020, 0x20202020, 0x20202020, 0x20202020));
        add(all, x, "job", y -> y.job(2, 3, 4, 5, true));
        add(all, x, "fault", TeaNight::fault);
        add(all, x, "minutes", y -> y.minutes(3));
        briefly(all, x);
        add(all, x, "again", y -> y.again(0));
        add(all, x, "minutes", y -> y.minutes(40));
        briefly(all, x);
        add(all, x, "test", y -> y.test(0, 15));
        add(all, x, "doubted", TeaNight::doubted);
        add(all, x, "wages", TeaNight::wages);
        for (int i = 0; i < 8; i++) {
            int row = i;
            add(all, x, "tear", y -> y.tear(row, 1));
        }
        add(all, x, "ring", y -> y.ring(3, 3, 3));
        add(all, x, "wanted", y -> y.wanted(3, 3, 3, 3, 3));
        add(all, x, "worker", y -> y.worker(3, 3));
        add(all, x, "out", y -> y.out(60));
        add(all, x, "back", TeaNight::back);
        briefly(all, x);
        add(all, x, "minutes", y -> y.minutes(120));
        briefly(all, x);
        add(all, x, "test", y -> y.test(0, 15));
        add(all, x, "check", TeaNight::check);
        return all;
    }

    private static void looked(List<String> all, TeaNight x) {
        add(all, x, "fault", TeaNight::fault);
        add(all, x, "plan", y -> y.plan(6, 3));
        for (int i = 0; i < 4; i++) {
            int n = i;
            add(all, x, "which", y -> y.which(6, 3, n));
            add(all, x, "foretell", y -> y.foretell(0, 0, n));
            add(all, x, "foretell", y -> y.foretell(1, 2, n));
            add(all, x, "pay 0", y -> y.pay(0, n));
            add(all, x, "pay 1", y -> y.pay(1, n));
            add(all, x, "order", y -> y.order(n));
            add(all, x, "quarrel", y -> y.quarrel(n));
            lookedAt(all, x, n);
        }
        for (int word : LED_WORDS) {
            for (int minute : LED_MINUTES) {
                add(all, x, "as " + word, y -> y.as(word, minute));
                add(all, x, "led " + word, y -> y.led(word, minute));
            }
        }
        add(all, x, "far", y -> y.far(0, 0));
        add(all, x, "far", y -> y.far(1, 2));
        add(all, x, "beside", y -> y.beside(false));
        add(all, x, "beside", y -> y.beside(true));
        briefly(all, x);
    }

    private static void lookedAt(List<String> all, TeaNight x, int job) {
        for (int i = 0; i < 10; i++) {
            int what = i;
            add(all, x, "look " + what + " at " + job, y -> y.look(job, what));
        }
        add(all, x, "reads", y -> y.words(job, false));
        add(all, x, "writes", y -> y.words(job, true));
        add(all, x, "leans", y -> y.leans(job));
        add(all, x, "doubt", y -> y.doubt(job, 0));
        add(all, x, "beyond", y -> y.doubt(job, 1));
    }

    private static void briefly(List<String> all, TeaNight x) {
        for (int i = 0; i < 13; i++) {
            int what = i;
            add(all, x, "count " + what, y -> y.count(what));
        }
        for (int word : TOLD_WORDS) {
            add(all, x, "word " + word, y -> y.word(word));
        }
        for (int i = 0; i < 4; i++) {
            int n = i;
            add(all, x, "state " + n, y -> y.look(n, 0));
            add(all, x, "cost " + n, y -> y.cost(n));
        }
        add(all, x, "doubted", TeaNight::doubted);
        add(all, x, "check", TeaNight::check);
        add(all, x, "ovens", y -> y.fill(false));
        add(all, x, "vans", y -> y.fill(true));
    }
}
