import java.nio.charset.StandardCharsets;

/** What the tests share: answers that are due, exceptions that are due, texts fed to the tape. */
final class Due {
    static final Class<?> INDEX = IndexOutOfBoundsException.class;
    static final Class<?> ARGUMENT = IllegalArgumentException.class;
    static final Class<?> STATE = IllegalStateException.class;
    static final Class<?> UNSUPPORTED = UnsupportedOperationException.class;
    static final Class<?> ELEMENT = java.util.NoSuchElementException.class;

    private static int wrong = 0;

    private Due() {
    }

    interface Call {
        Object run();
    }

    static void same(String what, long got, long want) {
        if (got != want) {
            wrong++;
            System.out.println(what + " answered " + got + ", due is " + want);
        }
    }

    static void yes(String what, boolean got) {
        same(what, got ? 1 : 0, 1);
    }

    static void no(String what, boolean got) {
        same(what, got ? 1 : 0, 0);
    }

    static void thrown(String what, Class<?> kind, Call call) {
        String got;
        try {
            got = String.valueOf(call.run());
        } catch (RuntimeException e) {
            if (e.getClass() == kind) {
                return;
            }
            got = e.getClass().getName();
        }
        wrong++;
        System.out.println(what + " answered " + got + ", due is a throw of " + kind.getSimpleName());
    }

    /** The tape has these bytes alone. */
    static void feed(TeaNight x, String text) {
        byte[] bytes = text.getBytes(StandardCharsets.ISO_8859_1);
        x.end(0);
        for (int i = 0; i < bytes.length; i += 20) {
            int[] n = new int[5];
            for (int j = 0; j < 20; j++) {
                int b = i + j < bytes.length ? bytes[i + j] & 255 : 0;
                n[j / 4] = n[j / 4] << 8 | b;
            }
            same("feed", x.feed(n[0], n[1], n[2], n[3], n[4]), i + 20);
        }
        yes("end", x.end(bytes.length));
    }

    static int job(TeaNight x, String text, int minutes, int worth, int hand, int point, boolean wage) {
        feed(x, text);
        return x.job(minutes, worth, hand, point, wage);
    }

    static int job(TeaNight x, String text, int minutes) {
        return job(x, text, minutes, 1, 3, 0, false);
    }

    /** The first wrong byte of a text; NONE if it is right. */
    static int fault(String text) {
        TeaNight x = new TeaNight();
        feed(x, text);
        try {
            same("job of " + text, x.job(1, 1, 1, 0, false), 0);
        } catch (IllegalArgumentException e) {
            same("jobs behind a wrong text", x.count(1), 0);
        }
        return x.fault();
    }

    static void wrongAt(String text, int want) {
        same("fault of \"" + text + "\"", fault(text), want);
    }

    /** A word behind a text that was done on a machine in one minute. */
    static int worked(String text, int word) {
        TeaNight x = new TeaNight();
        job(x, text, 1);
        x.minutes(1);
        return x.word(word);
    }

    static void finish() {
        System.out.println(wrong == 0 ? "all answers are as due" : wrong + " answers are not as due");
        if (wrong != 0) {
            System.exit(1);
        }
    }
}
