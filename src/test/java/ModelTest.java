import java.nio.charset.StandardCharsets;
import java.util.Random;

/** All promises: runs of calls by chance (the same at each time) on the class and on the model, answer by answer. */
public final class ModelTest {
    private static final String[] NAMES = {"feed", "end", "day", "old", "ring", "tell", "word", "as", "led", "job", "fault",
        "shorter", "words", "leans", "quarrel", "order", "way", "drop", "again", "out", "minutes", "look", "lamp", "test",
        "doubted", "doubt", "wanted", "foretell", "far", "good", "fleet", "fill", "cost", "worker", "alter", "pay", "wages",
        "plan", "which", "beside", "tear", "check", "image", "back", "count"};
    // how often each is called, by chance
    private static final int[] SHARE = {0, 2, 6, 6, 20, 25, 6, 12, 8, 25, 4, 12, 5, 5, 5, 5, 20, 8, 40, 6, 60, 30, 15, 12,
        12, 15, 15, 10, 8, 5, 4, 6, 6, 6, 8, 6, 8, 4, 4, 3, 8, 4, 3, 3, 12};
    private static final int CALLS = 512;
    private static int wrong = 0;

    private final Random chance;
    private final TeaNight x = new TeaNight();
    private final Model model = new Model();
    private final StringBuilder told = new StringBuilder();
    private int calls;

    private ModelTest(long seed) {
        chance = new Random(seed);
    }

    public static void main(String[] args) {
        int runs = args.length > 0 ? Integer.parseInt(args[0]) : 150;
        long first = args.length > 1 ? Long.parseLong(args[1]) : 1;
        for (long seed = first; seed < first + runs && wrong < 3; seed++) {
            new ModelTest(seed).run(seed);
        }
        texts(runs * 40);
        System.out.println(wrong == 0 ? "all answers are as due" : wrong + " runs went wrong");
        if (wrong != 0) {
            System.exit(1);
        }
    }

    private static void texts(int many) {
        ModelTest t = new ModelTest(99);
        String[] whole = {"repeat 3 set 16=2*word 1-old 2+day*", "sum 16 from 1 to 5;;", "round 16 by 5 ;x", "ask if not(1<2 or 2>weather) and 1<3)",
            "stop if 1<2*3", "set 20=1+2 ; ask if ((not 1<2)) ; stop if day>0 or not old 5<0-3 stop"};
        for (String text : whole) {
            for (int i = 0; i <= text.length(); i++) {
                sameFault(text.substring(0, i));
            }
        }
        for (int i = 0; i < many && wrong < 3; i++) {
            sameFault(t.text());
        }
    }

    private static void sameFault(String text) {
        int want = new Grammar(text).fault();
        int got = Due.fault(text);
        if (got != want) {
            wrong++;
            System.out.println("fault of \"" + text + "\" answered " + got + ", due is " + want);
        }
    }

    private int below(int n) {
        return chance.nextInt(n);
    }

    private boolean one(int in) {
        return below(in) == 0;
    }

    private void run(long seed) {
        while (calls < CALLS) {
            int which = pick();
            if (which == 9) {
                feedText();
            }
            int[] a = arguments(which);
            if (calls >= CALLS || !step(which, a)) {
                return;
            }
            if (wrong > 0) {
                return;
            }
        }
        if (wrong > 0) {
            System.out.println("seed " + seed);
        }
    }

    private int pick() {
        int all = 0;
        for (int s : SHARE) {
            all += s;
        }
        int at = below(all);
        int which = 0;
        while (at >= SHARE[which]) {
            at -= SHARE[which];
            which++;
        }
        return which;
    }

    private void feedText() {
        byte[] bytes = text().getBytes(StandardCharsets.ISO_8859_1);
        step(1, new int[] {0});
        for (int i = 0; i < bytes.length; i += 20) {
            int[] n = new int[5];
            for (int j = 0; j < 20; j++) {
                n[j / 4] = n[j / 4] << 8 | (i + j < bytes.length ? bytes[i + j] & 255 : ' ');
            }
            step(0, n);
        }
        step(1, new int[] {bytes.length});
    }

    /** Whether both went on alike. */
    private boolean step(int which, int[] a) {
        if (calls >= CALLS) {
            return false;
        }
        calls++;
        String want = answer(false, which, a);
        String got = answer(true, which, a);
        told.append(NAMES[which]).append(java.util.Arrays.toString(a)).append(" = ").append(got).append('\n');
        if (!got.equals(want)) {
            wrong++;
            System.out.println(told + "due is " + want);
            return false;
        }
        return true;
    }

    private String answer(boolean real, int which, int[] a) {
        try {
            return String.valueOf(real ? call(which, a) : model.call(which, a));
        } catch (IndexOutOfBoundsException | IllegalArgumentException | IllegalStateException
                | UnsupportedOperationException | java.util.NoSuchElementException e) {
            return e.getClass().getName();
        }
    }

    private static long of(boolean b) {
        return b ? 1 : 0;
    }

    private long call(int which, int[] a) {
        switch (which) {
            case 0: return x.feed(a[0], a[1], a[2], a[3], a[4]);
            case 1: return of(x.end(a[0]));
            case 2: x.day(a[0], a[1]); return 0;
            case 3: x.old(a[0], a[1]); return 0;
            case 4: return x.ring(a[0], a[1], a[2]);
            case 5: return x.tell(a[0], a[1]);
            case 6: return x.word(a[0]);
            case 7: return x.as(a[0], a[1]);
            case 8: return x.led(a[0], a[1]);
            case 9: return x.job(a[0], a[1], a[2], a[3], a[4] != 0);
            case 10: return x.fault();
            case 11: x.shorter(a[0], a[1], a[2], a[3]); return 0;
            case 12: return x.words(a[0], a[1] != 0);
            case 13: return x.leans(a[0]);
            case 14: return x.quarrel(a[0]);
            case 15: return x.order(a[0]);
            case 16: return of(x.way(a[0], a[1]));
            case 17: return of(x.drop(a[0]));
            case 18: return of(x.again(a[0]));
            case 19: return x.out(a[0]);
            case 20: return x.minutes(a[0]);
            case 21: return x.look(a[0], a[1]);
            case 22: return of(x.lamp(a[0], a[1], a[2]));
            case 23: return x.test(a[0], a[1]);
            case 24: return x.doubted();
            default: return callMore(which, a);
        }
    }

    private long callMore(int which, int[] a) {
        switch (which) {
            case 25: return of(x.doubt(a[0], a[1]));
            case 26: return x.wanted(a[0], a[1], a[2], a[3], a[4]);
            case 27: return x.foretell(a[0], a[1], a[2]);
            case 28: return of(x.far(a[0], a[1]));
            case 29: x.good(a[0], a[1], a[2], a[3], a[4]); return 0;
            case 30: x.fleet(a[0], a[1], a[2], a[3], a[4]); return 0;
            case 31: return x.fill(a[0] != 0);
            case 32: return x.cost(a[0]);
            case 33: return x.worker(a[0], a[1]);
            case 34: return of(x.alter(a[0], a[1], a[2]));
            case 35: return x.pay(a[0], a[1]);
            case 36: return x.wages();
            case 37: return x.plan(a[0], a[1]);
            case 38: return x.which(a[0], a[1], a[2]);
            case 39: return x.beside(a[0] != 0);
            case 40: return x.tear(a[0], a[1]);
            case 41: return x.check();
            case 42: x.image(); return 0;
            case 43: return of(x.back());
            case 44: return x.count(a[0]);
            default: return 0;
        }
    }

    private int[] arguments(int which) {
        int job = index(x.count(1));
        switch (which) {
            case 1: return new int[] {from(-1, 41)};
            case 2: return new int[] {from(0, 6), from(0, 9)};
            case 3: case 5: return new int[] {word(), value()};
            case 4: return new int[] {index(4), index(4), from(0, one(3) ? 99999 : 30)};
            case 6: return new int[] {word()};
            case 7: case 8: return new int[] {word(), one(9) ? chance.nextInt() : from(0, Math.max(1, x.count(0)))};
            case 9: return new int[] {from(1, one(3) ? 60 : 5), from(0, one(2) ? 1000 : 5), from(0, one(4) ? 480 : 4),
                from(0, one(4) ? 60 : 3), of(one(3)) != 0 ? 1 : 0};
            case 11: return new int[] {job, from(0, one(4) ? 60 : 4), from(0, one(2) ? 1000 : 5), from(-9999, 9999)};
            case 12: return new int[] {job, below(2)};
            case 13: case 17: case 18: return new int[] {job};
            case 14: return new int[] {from(0, 8)};
            case 15: return new int[] {from(0, 12)};
            case 16: return new int[] {job, from(0, 2)};
            case 19: return new int[] {from(1, one(3) ? 60 : 3)};
            case 20: return new int[] {one(25) ? from(0, 120) : from(0, 6)};
            case 21: return new int[] {job, from(0, 9)};
            case 22: return new int[] {lamp(), one(12) ? from(0, 480) : x.count(0) + below(4), one(6) ? chance.nextInt() : from(0, 40)};
            case 23: return new int[] {one(2) ? 0 : lamp(), one(2) ? 15 : lamp()};
            default: return moreArguments(which, job);
        }
    }

    private int[] moreArguments(int which, int job) {
        switch (which) {
            case 25: return new int[] {job, from(0, 1)};
            case 26: return new int[] {below(2), below(2), from(0, 2), from(0, 9), from(0, one(3) ? 99999 : 30)};
            case 27: return new int[] {one(9) ? index(4) : below(2), one(9) ? index(4) : below(2), from(0, 3)};
            case 28: return new int[] {one(9) ? index(4) : below(2), one(9) ? index(4) : below(2)};
            case 29: return new int[] {index(4), from(1, one(3) ? 9999 : 9), from(1, one(2) ? 100 : 9), from(1, one(2) ? 100 : 9), from(0, 9999)};
            case 30: return new int[] {from(0, room()), from(0, room()), from(0, room()), from(0, 1000000), from(0, one(2) ? 1000000 : 50)};
            case 31: case 39: return new int[] {below(2)};
            case 32: return new int[] {index(4)};
            case 33: return new int[] {from(0, 99), from(0, 999)};
            case 34: return new int[] {index(x.count(9)), one(2) ? 40 : from(0, 99), from(0, 9)};
            case 35: return new int[] {index(x.count(9)), from(0, 3)};
            case 37: return new int[] {time(), time()};
            case 38: return new int[] {time(), time(), job};
            case 40: return new int[] {from(0, 7), one(3) ? 0 : one(2) ? chance.nextInt() : below(3)};
            case 44: return new int[] {from(0, 12)};
            default: return new int[0];
        }
    }

    private int room() {
        return one(2) ? 100000000 : 500;
    }

    private int time() {
        return one(15) ? from(0, 1000) : below(one(2) ? 200 : 12);
    }

    /** A number between two, now and then one that is none. */
    private int from(int least, int most) {
        if (one(40)) {
            return one(4) ? chance.nextInt() : one(2) ? least - 1 : most + 1;
        }
        return one(12) ? one(2) ? least : most : least + below(most - least + 1);
    }

    private int index(int count) {
        return one(30) || count == 0 ? one(2) ? -1 : count : below(count);
    }

    private int lamp() {
        return one(30) ? below(20) - 2 : below(one(2) ? 16 : 5);
    }

    private int word() {
        return one(30) ? one(2) ? 64 : -1 : one(3) ? below(64) : one(2) ? below(4) : 16 + below(6);
    }

    private int value() {
        return one(4) ? from(-999999999, 999999999) : below(41) - 20;
    }

    // ---- texts

    private String text() {
        int lines = one(15) ? 8 + below(4) : one(12) ? 0 : 1 + below(3);
        StringBuilder s = new StringBuilder(gap());
        for (int i = 0; i < lines; i++) {
            s.append(i > 0 ? ";" : "").append(gap()).append(line()).append(gap());
        }
        if (one(8)) {
            spoil(s);
        }
        return s.length() > 400 ? s.substring(0, 400) : s.toString();
    }

    private void spoil(StringBuilder s) {
        String signs = " ;+-*<>()=0129azw\t\u00e9\0";
        for (int i = 0; i <= below(3); i++) {
            int at = below(s.length() + 1);
            int how = below(4);
            if (how == 0 && at < s.length()) {
                s.deleteCharAt(at);
            } else if (how == 1) {
                s.insert(at, signs.charAt(below(signs.length())));
            } else if (how == 2 && at < s.length()) {
                s.setCharAt(at, signs.charAt(below(signs.length())));
            } else if (one(2)) {
                s.setLength(at);
            } else {
                String[] parts = {" not ", " and ", " or ", "word", " if ", " set 16=1", "(", "old 5", " repeat 2 ", "1000000"};
                s.insert(at, parts[below(parts.length)]);
            }
        }
    }

    private String gap() {
        return one(4) ? one(3) ? "  " : " " : "";
    }

    private String line() {
        int what = below(10);
        if (what < 5) {
            return (one(4) ? "repeat " + (one(60) ? below(12) : 1 + below(9)) + " " : "") + "set" + gap() + target() + gap() + "=" + sum();
        }
        if (what == 5) {
            int from = one(2) ? below(64) : 14 + below(8);
            int to = Math.min(63, from + below(one(3) ? 64 : 5));
            return "sum" + gap() + target() + gap() + "from " + from + " to" + gap() + (one(60) ? from - 1 : to);
        }
        if (what == 6) {
            return "round " + target() + gap() + "by " + (one(60) ? below(3) * 5000 : one(3) ? 1 + below(9999) : 1 + below(12));
        }
        return (one(2) ? "ask" : "stop") + " if" + gap() + condition(0);
    }

    private String target() {
        return one(60) ? String.valueOf(below(80)) : one(20) ? "0" + (16 + below(6)) : String.valueOf(one(5) ? 16 + below(48) : 16 + below(6));
    }

    private String sum() {
        StringBuilder s = new StringBuilder(gap());
        int parts = 1 + (one(2) ? below(4) : 0);
        for (int i = 0; i < parts; i++) {
            s.append(i == 0 ? "" : one(2) ? "+" : "-").append(gap());
            s.append(one(4) ? (one(3) ? below(1000000) : below(9)) + gap() + "*" + gap() : "").append(atom()).append(gap());
        }
        return s.toString();
    }

    private String atom() {
        switch (below(9)) {
            case 0: return String.valueOf(one(2) ? below(1000000) : below(20));
            case 1: return "0" + below(50);
            case 2: return "old" + gap() + (one(60) ? 64 : one(2) ? 16 + below(6) : below(64));
            case 3: return "day";
            case 4: return "weather";
            case 5: return "word " + (one(60) ? 64 : below(64));
            case 6: return "word" + gap() + below(4);
            default: return "word" + gap() + (16 + below(6));
        }
    }

    private String condition(int deep) {
        StringBuilder s = new StringBuilder(test(deep));
        while (one(3)) {
            s.append(one(2) ? " or " : " and ").append(test(deep));
        }
        return s.toString();
    }

    private String test(int deep) {
        if (deep < 6 && one(4) || deep >= 6 && one(60)) {
            return "not " + test(deep + 1);
        }
        if (deep < 6 && one(4) || deep >= 6 && one(60)) {
            return "(" + gap() + condition(deep + 1) + gap() + ")";
        }
        return sum() + (one(2) ? "<" : ">") + sum();
    }
}
