import java.util.Arrays;
import java.util.NoSuchElementException;

/** The night run of a company of tea shops on one early machine, its clerks, ovens, vans and wages. */
public final class TeaNight {
    public static final int NONE = -1;

    private static final int NIGHT_END = 480;
    private static final int MOST_MINUTES = 120;
    private static final int DAYS = 7;
    private static final int WEATHERS = 10;

    private static final int WORDS = 64;
    private static final int FIRST_OF_JOBS = 16;
    private static final int WORD_BOUND = 999999999;
    private static final int LAMPS = 16;
    private static final int NOT_WRITTEN = -2;
    // each of the 512 calls adds at most the ten writings of one doing of one job
    private static final int ROWS = 5120;
    private static final int SHOWN_ROWS = 8;

    private static final int SHOPS = 4;
    private static final int GOODS = 4;
    private static final int VANS = 3;
    private static final int RINGS = 400;
    private static final int MOST_RUNG = 99999;
    private static final int WANTS = 100;
    private static final int LATEST_WANTS = 4;
    private static final int WORKERS = 20;

    private static final int TAPE = 400;
    private static final int FED = 20;
    private static final int LINES = 10;
    private static final int DEEPEST = 6;
    // at each depth an or and an and may be open, and what leads to the next one
    private static final int OPEN = 3 * DEEPEST + 2;
    private static final int DIGITS = 6;
    private static final int MOST_NUMBER = 999999;
    // a byte of text never takes more than three numbers of code
    private static final int CODE = 3 * TAPE + 8;

    private static final int JOBS = 12;
    private static final int PLANNED = 7;
    private static final int MOST_PLANNED = 1000;

    private static final int WAITS = 0;
    private static final int RUNS = 1;
    private static final int ENDED = 2;
    private static final int ENDED_SHORT = 3;
    private static final int DONE_BY_HAND = 4;
    private static final int DROPPED = 5;
    private static final int FAILED = 6;

    private static final int WHOLE = 0;
    private static final int SHORT = 1;
    private static final int BY_HAND = 2;
    private static final int LEFT_OUT = 3;

    // the kinds of things in a text, and what its code says: a sign is its byte, a word comes by its place among the known
    private static final int END = -1;
    private static final int NUMBER = -2;
    private static final int NO_THING = -3;
    private static final String KNOWN =
            "repeat set sum from to round by ask stop if or and not word old day weather ";
    private static final int REPEAT = 256;
    private static final int SET = 257;
    private static final int SUM = 258;
    private static final int FROM = 259;
    private static final int TO = 260;
    private static final int ROUND = 261;
    private static final int BY = 262;
    private static final int ASK = 263;
    private static final int STOP = 264;
    private static final int IF = 265;
    private static final int OR = 266;
    private static final int AND = 267;
    private static final int NOT = 268;
    private static final int WORD = 269;
    private static final int OLD = 270;
    private static final int DAY = 271;
    private static final int WEATHER = 272;

    private final Tape tape = new Tape();
    private int fault = NONE;
    private final Night now = new Night();
    private final Night kept = new Night();
    private boolean keeps;
    private final Plan lost = new Plan();

    public TeaNight() {
    }

    // ---- the tape, and what is told to the night

    public int feed(int a, int b, int c, int d, int e) {
        if (tape.length + FED > TAPE) {
            return NONE;
        }
        tape.punch(a);
        tape.punch(b);
        tape.punch(c);
        tape.punch(d);
        tape.punch(e);
        return tape.length;
    }

    public boolean end(int n) {
        if (n < 0 || n > tape.length) {
            return false;
        }
        tape.length = n;
        return true;
    }

    public void day(int day, int weather) throws IllegalArgumentException {
        needNumber(day, 0, DAYS - 1);
        needNumber(weather, 0, WEATHERS - 1);
        now.day = day;
        now.weather = weather;
    }

    public void old(int word, int n) throws IndexOutOfBoundsException, IllegalArgumentException {
        needPlace(word, WORDS);
        needNumber(n, -WORD_BOUND, WORD_BOUND);
        now.store.putOld(word, n);
    }

    public int ring(int shop, int good, int n) throws IndexOutOfBoundsException, IllegalArgumentException {
        needPlace(shop, SHOPS);
        needPlace(good, GOODS);
        needNumber(n, 0, MOST_RUNG);
        return now.tellWord(GOODS * shop + good, n);
    }

    public int tell(int word, int n) throws IndexOutOfBoundsException, IllegalArgumentException {
        needPlace(word, WORDS);
        needNumber(n, -WORD_BOUND, WORD_BOUND);
        return now.tellWord(word, n);
    }

    public int word(int word) throws IndexOutOfBoundsException {
        needPlace(word, WORDS);
        return now.store.wordAt(word);
    }

    public int as(int word, int minute) throws IndexOutOfBoundsException {
        needPlace(word, WORDS);
        int row = now.store.latestRow(word, minute);
        return row == NONE ? 0 : now.store.valueOf(row);
    }

    public int led(int word, int minute) throws IndexOutOfBoundsException {
        needPlace(word, WORDS);
        int row = now.store.latestRow(word, minute);
        return row == NONE ? NOT_WRITTEN : now.store.jobOf(row);
    }

    // ---- the jobs

    public int job(int minutes, int worth, int hand, int point, boolean wage)
            throws IllegalArgumentException, UnsupportedOperationException {
        int length = tape.length;
        tape.length = 0;
        needNumber(minutes, 1, 60);
        needNumber(worth, 0, 1000);
        needNumber(hand, 0, 480);
        needNumber(point, 0, 60);
        Text text = tape.readText(length);
        fault = tape.wrong;
        if (text == null) {
            throw new IllegalArgumentException("the text is wrong");
        }
        if (now.jobs.count >= JOBS) {
            throw new UnsupportedOperationException("there are 12 jobs");
        }
        Job row = now.jobs.at(now.jobs.count);
        row.setUp(minutes, worth, hand, point, wage, text);
        return now.jobs.admit();
    }

    public int fault() {
        return fault;
    }

    public void shorter(int job, int minutes, int worth, int more)
            throws IndexOutOfBoundsException, IllegalArgumentException {
        needPlace(job, now.jobs.count);
        needNumber(minutes, 0, 60);
        needNumber(worth, 0, 1000);
        needNumber(more, -9999, 9999);
        Job row = now.jobs.at(job);
        row.shortMinutes = minutes;
        row.shortWorth = worth;
        row.more = more;
    }

    public long words(int job, boolean writes) throws IndexOutOfBoundsException {
        needPlace(job, now.jobs.count);
        Job row = now.jobs.at(job);
        return writes ? row.writes() : row.reads();
    }

    public int leans(int job) throws IndexOutOfBoundsException {
        needPlace(job, now.jobs.count);
        return now.jobs.leansOf(job);
    }

    public int quarrel(int n) {
        return now.jobs.quarrelAt(n);
    }

    public int order(int place) {
        return now.jobs.placed(place);
    }

    public boolean way(int job, int how) throws IndexOutOfBoundsException, IllegalArgumentException {
        needPlace(job, now.jobs.count);
        needNumber(how, WHOLE, BY_HAND);
        Job row = now.jobs.at(job);
        if (row.state != WAITS || row.handDone > 0 || !row.hasWay(how)) {
            return false;
        }
        row.way = how;
        return true;
    }

    public boolean drop(int job) throws IndexOutOfBoundsException {
        needPlace(job, now.jobs.count);
        Job row = now.jobs.at(job);
        if (row.state != WAITS) {
            return false;
        }
        row.state = DROPPED;
        return true;
    }

    public boolean again(int job) throws IndexOutOfBoundsException {
        needPlace(job, now.jobs.count);
        Job row = now.jobs.at(job);
        if (row.state == WAITS || row.state == RUNS) {
            return false;
        }
        row.state = WAITS;
        row.handDone = 0;
        return true;
    }

    public int out(int minutes) throws IllegalArgumentException, IllegalStateException {
        needNumber(minutes, 1, 60);
        if (now.out + minutes > NIGHT_END) {
            throw new IllegalStateException("the machine would be out too long");
        }
        now.breakDown(minutes);
        return now.out;
    }

    public int minutes(int n) throws IllegalArgumentException {
        needNumber(n, 0, MOST_MINUTES);
        for (int i = 0; i < n && now.minute < NIGHT_END; i++) {
            now.oneMinute();
        }
        return now.minute;
    }

    public int look(int job, int what) throws IndexOutOfBoundsException, NoSuchElementException {
        needPlace(job, now.jobs.count);
        needWhat(what, 9);
        return what == 9 ? now.jobs.placeOf(job) : now.jobs.at(job).shown(what);
    }

    // ---- lamps and doubt

    public boolean lamp(int lamp, int minute, int mask) throws IndexOutOfBoundsException, IllegalArgumentException {
        needPlace(lamp, LAMPS);
        needNumber(minute, now.minute, NIGHT_END);
        if (mask == 0) {
            throw new IllegalArgumentException("no bit is turned");
        }
        return now.store.failLamp(lamp, minute, mask);
    }

    public int test(int from, int to) throws IndexOutOfBoundsException, IllegalArgumentException {
        needPlace(from, LAMPS);
        needPlace(to, LAMPS);
        needNumber(to, from, LAMPS - 1);
        return now.store.testLamps(from, to, now.minute);
    }

    public long doubted() {
        return now.store.badWords(now.jobs);
    }

    public boolean doubt(int job, int what) throws IndexOutOfBoundsException, NoSuchElementException {
        needPlace(job, now.jobs.count);
        needWhat(what, 1);
        long bad = now.store.badWords(now.jobs);
        return what == 0 ? (now.jobs.at(job).writes() & bad) != 0L : now.jobs.beyondDoubt(job, bad);
    }

    // ---- the shops' wants, ovens, vans and what a good costs

    public int wanted(int shop, int good, int day, int weather, int n)
            throws IndexOutOfBoundsException, IllegalArgumentException {
        needPlace(shop, SHOPS);
        needPlace(good, GOODS);
        needNumber(day, 0, DAYS - 1);
        needNumber(weather, 0, WEATHERS - 1);
        needNumber(n, 0, MOST_RUNG);
        return now.wants.note(GOODS * shop + good, day, weather, n);
    }

    public int foretell(int shop, int good, int what) throws IndexOutOfBoundsException, NoSuchElementException {
        needPlace(shop, SHOPS);
        needPlace(good, GOODS);
        needWhat(what, 3);
        now.wants.find(GOODS * shop + good, now.day);
        return now.wants.foretold(now.weather, what);
    }

    public boolean far(int shop, int good) throws IndexOutOfBoundsException {
        needPlace(shop, SHOPS);
        needPlace(good, GOODS);
        int place = GOODS * shop + good;
        now.wants.find(place, now.day);
        return now.wants.isFar(now.store.wordAt(place));
    }

    public void good(int good, int batch, int heat, int weight, int price)
            throws IndexOutOfBoundsException, IllegalArgumentException {
        needPlace(good, GOODS);
        needNumber(batch, 1, 9999);
        needNumber(heat, 1, 100);
        needNumber(weight, 1, 100);
        needNumber(price, 0, 9999);
        now.bakery.setGood(good, batch, heat, weight, price);
    }

    public void fleet(int a, int b, int c, int ovens, int vans) throws IllegalArgumentException {
        needNumber(a, 0, 100000000);
        needNumber(b, 0, 100000000);
        needNumber(c, 0, 100000000);
        needNumber(ovens, 0, 1000000);
        needNumber(vans, 0, 1000000);
        now.bakery.setFleet(a, b, c, ovens, vans);
    }

    public long fill(boolean vans) {
        return vans ? now.bakery.leastLoads(now.store) : now.bakery.ovensEnd(now.store);
    }

    public long cost(int good) throws IndexOutOfBoundsException {
        needPlace(good, GOODS);
        return now.bakery.costOf(now.store, good);
    }

    // ---- the wages

    public int worker(int hours, int pence) throws IllegalArgumentException, UnsupportedOperationException {
        needNumber(hours, 0, 99);
        needNumber(pence, 0, 999);
        if (now.payroll.count >= WORKERS) {
            throw new UnsupportedOperationException("there are 20 workers");
        }
        return now.payroll.hire(hours, pence);
    }

    public boolean alter(int worker, int hours, int hand)
            throws IndexOutOfBoundsException, IllegalArgumentException, IllegalStateException {
        needPlace(worker, now.payroll.count);
        needNumber(hours, 0, 99);
        needNumber(hand, 0, 9);
        if (now.payroll.paid) {
            throw new IllegalStateException("the wages are paid");
        }
        return now.payroll.change(worker, hours, hand);
    }

    public int pay(int worker, int what) throws IndexOutOfBoundsException, NoSuchElementException {
        needPlace(worker, now.payroll.count);
        needWhat(what, 3);
        return now.payroll.shown(worker, what);
    }

    public int wages() {
        if (now.payroll.paid || !now.jobs.wagesMayBePaid(now.store.badWords(now.jobs))) {
            return NONE;
        }
        now.payroll.paid = true;
        return now.payroll.together();
    }

    // ---- plans, rows, the image

    public int plan(int machine, int clerks) throws IllegalArgumentException {
        needNumber(machine, 0, MOST_PLANNED);
        needNumber(clerks, 0, MOST_PLANNED);
        return lost.bestWorth(now.jobs, machine, clerks);
    }

    public int which(int machine, int clerks, int job) throws IndexOutOfBoundsException, IllegalArgumentException {
        needPlace(job, now.jobs.count);
        needNumber(machine, 0, MOST_PLANNED);
        needNumber(clerks, 0, MOST_PLANNED);
        lost.bestWorth(now.jobs, machine, clerks);
        return lost.chosen(job);
    }

    public int beside(boolean two) {
        return two ? now.jobs.withTwoMachines() : now.jobs.byClerksAlone();
    }

    public int tear(int i, int mask) throws NoSuchElementException {
        int shown = now.store.shownRows();
        if (i < 0 || i >= shown) {
            throw new NoSuchElementException("no such row");
        }
        return now.store.tearRow(now.store.rows - shown + i, mask);
    }

    public int check() {
        return now.store.firstTorn();
    }

    public void image() {
        kept.copyFrom(now);
        keeps = true;
    }

    public boolean back() {
        if (!keeps) {
            return false;
        }
        now.copyFrom(kept);
        return true;
    }

    public int count(int what) {
        switch (what) {
            case 0: return now.minute;
            case 1: return now.jobs.count;
            case 2: return now.store.rows;
            case 3: return now.out;
            case 4: return now.running;
            case 5: return now.jobs.waiting();
            case 6: return now.rings;
            case 7: return now.jobs.askedTogether();
            case 8: return now.jobs.failedTogether();
            case 9: return now.payroll.count;
            case 10: return now.payroll.paid ? 1 : 0;
            case 11: return now.wants.count;
            case 12: return now.store.caught;
            default: return NONE;
        }
    }

    // ---- what a call may be given

    private static void needPlace(int n, int count) {
        if (n < 0 || n >= count) {
            throw new IndexOutOfBoundsException("there is none such");
        }
    }

    private static void needNumber(int n, int least, int most) {
        if (n < least || n > most) {
            throw new IllegalArgumentException("the number is none");
        }
    }

    private static void needWhat(int what, int most) {
        if (what < 0 || what > most) {
            throw new NoSuchElementException("nothing such is told");
        }
    }

    private static boolean outOfBounds(long value) {
        return value < -WORD_BOUND || value > WORD_BOUND;
    }

    /** All of the night that an image keeps. */
    private static final class Night {
        final Doer doer = new Doer();
        final Store store = doer.store;
        final Jobs jobs = new Jobs();
        final Wants wants = new Wants();
        final Bakery bakery = new Bakery();
        final Payroll payroll = new Payroll();
        int minute;
        int day;
        int weather;
        int out;
        int running = NONE;
        int rings;

        int tellWord(int word, int n) {
            if (rings >= RINGS) {
                return NONE;
            }
            store.takePen(NONE, minute, false, false);
            store.write(word, n);
            rings++;
            return rings;
        }

        void breakDown(int minutes) {
            out += minutes;
            if (running != NONE) {
                jobs.at(running).fallBack();
            }
        }

        void oneMinute() {
            minute++;
            int ending = NONE;
            if (out > 0) {
                out--;
            } else {
                ending = runMachine();
            }
            if (ending != NONE) {
                finish(ending, true);
            }
            int doneByHand = runClerks();
            if (doneByHand != NONE) {
                finish(doneByHand, false);
            }
        }

        /** The job that ends in this minute. */
        private int runMachine() {
            if (running == NONE) {
                running = jobs.nextForMachine();
                if (running == NONE) {
                    return NONE;
                }
                jobs.at(running).begin();
            }
            Job row = jobs.at(running);
            row.left--;
            if (row.left > 0) {
                return NONE;
            }
            int ending = running;
            running = NONE;
            return ending;
        }

        /** The job of which the last hand minute is done in this minute. */
        private int runClerks() {
            int job = jobs.nextForClerks();
            if (job == NONE) {
                return NONE;
            }
            Job row = jobs.at(job);
            row.handDone++;
            return row.handDone >= row.hand ? job : NONE;
        }

        private void finish(int job, boolean machine) {
            Job row = jobs.at(job);
            boolean shortly = machine && row.way == SHORT;
            store.takePen(job, minute, machine, !shortly);
            boolean fine = shortly ? doer.doShortly(row.writes(), row.more) : doer.doText(row.text, day, weather);
            if (!shortly) {
                row.asked += doer.asked;
            }
            int ended = !machine ? DONE_BY_HAND : shortly ? ENDED_SHORT : ENDED;
            row.leave(fine ? ended : FAILED, minute);
        }

        void copyFrom(Night other) {
            store.copyFrom(other.store);
            jobs.copyFrom(other.jobs);
            wants.copyFrom(other.wants);
            bakery.copyFrom(other.bakery);
            payroll.copyFrom(other.payroll);
            minute = other.minute;
            day = other.day;
            weather = other.weather;
            out = other.out;
            running = other.running;
            rings = other.rings;
        }
    }

    /** The words, the lamps that hold them, and a row for each writing. */
    private static final class Store {
        // a row's tag: six bits of word, four of the job and one more, nine of the minute, and these marks
        private static final int JOB_SHIFT = 6;
        private static final int MINUTE_SHIFT = 10;
        private static final int ON_MACHINE = 1 << 19;
        private static final int OF_TEXT = 1 << 20;
        private static final int FIRST = 1 << 21;
        private static final int TESTED = 1 << 22;
        private static final int CAUGHT = 1 << 23;

        private final int[] words = new int[WORDS];
        private final int[] olds = new int[WORDS];
        private final int[] lampMinutes = new int[LAMPS];
        private final int[] lampMasks = new int[LAMPS];
        private final int[] values = new int[ROWS];
        private final int[] tears = new int[ROWS];
        private final int[] tags = new int[ROWS];
        int rows;
        int caught;
        private int pen;

        int wordAt(int word) {
            return word >= 0 && word < WORDS ? words[word] : 0;
        }

        int oldAt(int word) {
            return word >= 0 && word < WORDS ? olds[word] : 0;
        }

        void putOld(int word, int n) {
            if (word >= 0 && word < WORDS) {
                olds[word] = n;
            }
        }

        /** Tells by whom, when and how the writings that follow are made. */
        void takePen(int job, int minute, boolean machine, boolean text) {
            pen = (job + 1) << JOB_SHIFT | minute << MINUTE_SHIFT | FIRST
                    | (machine ? ON_MACHINE : 0) | (text ? OF_TEXT : 0);
        }

        void write(int word, int value) {
            if (word < 0 || word >= WORDS) {
                return;
            }
            int lamp = word % LAMPS;
            boolean spoilt = (pen & ON_MACHINE) != 0 && hasFailed(lamp, minuteIn(pen));
            int written = spoilt ? value ^ lampMasks[lamp] : value;
            words[word] = written;
            if (rows >= 0 && rows < ROWS) {
                values[rows] = written;
                tears[rows] = 0;
                tags[rows] = pen | word;
                rows++;
            }
            pen &= ~FIRST;
        }

        private boolean hasFailed(int lamp, int minute) {
            return lampMasks[lamp] != 0 && lampMinutes[lamp] <= minute;
        }

        boolean failLamp(int lamp, int minute, int mask) {
            if (lamp < 0 || lamp >= LAMPS || lampMasks[lamp] != 0) {
                return false;
            }
            lampMinutes[lamp] = minute;
            lampMasks[lamp] = mask;
            return true;
        }

        int testLamps(int from, int to, int minute) {
            int bits = 0;
            for (int lamp = 0; lamp < LAMPS; lamp++) {
                if (lamp >= from && lamp <= to && hasFailed(lamp, minute)) {
                    bits |= 1 << lamp;
                    lampMasks[lamp] = 0;
                    caught++;
                }
            }
            for (int row = 0; row < rows && row < ROWS; row++) {
                int lamp = wordIn(tags[row]) % LAMPS;
                // only the first test behind a writing tells of it
                boolean first = (tags[row] & ON_MACHINE) != 0 && (tags[row] & TESTED) == 0;
                if (first && lamp >= from && lamp <= to) {
                    tags[row] |= (bits >>> lamp & 1) != 0 ? TESTED | CAUGHT : TESTED;
                }
            }
            return bits;
        }

        /** The words whose latest writing is bad. */
        long badWords(Jobs jobs) {
            long bad = 0L;
            boolean misled = false;
            for (int row = 0; row < rows && row < ROWS; row++) {
                int tag = tags[row];
                if ((tag & FIRST) != 0) {
                    misled = (tag & OF_TEXT) != 0 && (jobs.at(jobIn(tag)).reads() & bad) != 0L;
                }
                long bit = 1L << wordIn(tag);
                bad = misled || (tag & CAUGHT) != 0 ? bad | bit : bad & ~bit;
            }
            return bad;
        }

        int latestRow(int word, int minute) {
            for (int row = Math.min(rows, ROWS) - 1; row >= 0; row--) {
                if (wordIn(tags[row]) == word && minuteIn(tags[row]) <= minute) {
                    return row;
                }
            }
            return NONE;
        }

        int valueOf(int row) {
            return row >= 0 && row < ROWS ? values[row] ^ tears[row] : 0;
        }

        int jobOf(int row) {
            return row >= 0 && row < ROWS ? jobIn(tags[row]) : NONE;
        }

        int shownRows() {
            return Math.min(rows, SHOWN_ROWS);
        }

        int tearRow(int row, int mask) {
            if (row >= 0 && row < ROWS) {
                tears[row] ^= mask;
            }
            return valueOf(row);
        }

        int firstTorn() {
            int shown = shownRows();
            for (int i = 0; i < shown; i++) {
                int row = rows - shown + i;
                if (row >= 0 && row < ROWS && tears[row] != 0) {
                    return i;
                }
            }
            return NONE;
        }

        private static int wordIn(int tag) {
            return tag & WORDS - 1;
        }

        private static int jobIn(int tag) {
            return (tag >>> JOB_SHIFT & 15) - 1;
        }

        private static int minuteIn(int tag) {
            return tag >>> MINUTE_SHIFT & 511;
        }

        void copyFrom(Store other) {
            int length = Math.max(0, Math.min(other.rows, ROWS));
            System.arraycopy(other.words, 0, words, 0, WORDS);
            System.arraycopy(other.olds, 0, olds, 0, WORDS);
            System.arraycopy(other.lampMinutes, 0, lampMinutes, 0, LAMPS);
            System.arraycopy(other.lampMasks, 0, lampMasks, 0, LAMPS);
            System.arraycopy(other.values, 0, values, 0, length);
            System.arraycopy(other.tears, 0, tears, 0, length);
            System.arraycopy(other.tags, 0, tags, 0, length);
            rows = other.rows;
            caught = other.caught;
            pen = other.pen;
        }
    }

    /** A text that was read: its code, and the words that it reads and writes. */
    private static final class Text {
        private final int[] code;
        final int lines;
        final long reads;
        final long writes;

        Text(int[] code, int lines, long reads, long writes) {
            this.code = code;
            this.lines = lines;
            this.reads = reads;
            this.writes = writes;
        }

        int codeAt(int i) {
            return i >= 0 && i < code.length ? code[i] : 0;
        }
    }

    /** The tape: reads the text on it, thing by thing, and tells where it is wrong. */
    private static final class Tape {
        private final int[] bytes = new int[TAPE];
        int length;
        // the things of the text that is read, the END too: their kinds, where they begin, and the numbers
        private final int[] kinds = new int[TAPE + 1];
        private final int[] begins = new int[TAPE + 1];
        private final int[] numbers = new int[TAPE + 1];
        private int things;
        private int at;
        private int taken;
        private final int[] code = new int[CODE];
        private int size;
        // of a condition: the not, ( , and, or that are not settled yet
        private final int[] open = new int[OPEN];
        private int height;
        private int deep;
        private long named;
        private long reads;
        private long writes;
        int wrong = NONE;

        void punch(int n) {
            for (int shift = 24; shift >= 0; shift -= 8) {
                if (length >= 0 && length < TAPE) {
                    bytes[length] = n >>> shift & 255;
                    length++;
                }
            }
        }

        /** The text of the first so many bytes, or null if it is wrong. */
        Text readText(int bytesOfIt) {
            scan(Math.max(0, Math.min(bytesOfIt, TAPE)));
            at = 0;
            size = 0;
            reads = 0L;
            writes = 0L;
            int lines = 0;
            boolean fine = kind() == END;
            boolean going = !fine;
            for (int i = 0; i < LINES && going; i++) {
                long ahead = writes;
                named = 0L;
                going = readLine();
                reads |= named & ~ahead;
                if (going) {
                    lines++;
                    fine = kind() == END;
                    going = takes(';');
                }
            }
            wrong = fine ? NONE : begin();
            return fine ? new Text(Arrays.copyOf(code, Math.max(0, size)), lines, reads, writes) : null;
        }

        private boolean readLine() {
            if (takes(REPEAT)) {
                if (!takeNumber(1, 9)) {
                    return false;
                }
                int repeats = taken;
                return takes(SET) && readSet(repeats);
            }
            if (takes(SET)) {
                return readSet(1);
            }
            if (takes(SUM)) {
                return readTotal();
            }
            if (takes(ROUND)) {
                return readRound();
            }
            int what = kind();
            if (!takes(ASK) && !takes(STOP)) {
                return false;
            }
            emit(what);
            return takes(IF) && readCondition();
        }

        private boolean readSet(int repeats) {
            if (!takeTarget(SET) || !takes('=')) {
                return false;
            }
            emit(repeats);
            return readSum();
        }

        private boolean readTotal() {
            if (!takeTarget(SUM) || !takes(FROM) || !takeNumber(0, WORDS - 1)) {
                return false;
            }
            int from = taken;
            if (!takes(TO) || !takeNumber(from, WORDS - 1)) {
                return false;
            }
            emit(from);
            emit(taken);
            for (int word = from; word <= taken; word++) {
                named |= 1L << word;
            }
            return true;
        }

        private boolean readRound() {
            if (!takeTarget(ROUND)) {
                return false;
            }
            named |= 1L << taken;
            if (!takes(BY) || !takeNumber(1, 9999)) {
                return false;
            }
            emit(taken);
            return true;
        }

        /** Tests go to the code as they come; what joins them goes behind those that it joins. */
        private boolean readCondition() {
            height = 0;
            deep = 0;
            for (int i = 0; i < TAPE; i++) {
                int what = kind();
                if (what == NOT || what == '(') {
                    if (deep >= DEEPEST) {
                        return false;
                    }
                    at++;
                    deep++;
                    push(what);
                } else if (!readCompared()) {
                    return false;
                } else {
                    closeWhatEnds();
                    int join = takes(AND) ? AND : takes(OR) ? OR : END;
                    settle(join == AND ? AND : OR);
                    if (join == END) {
                        emit(END);
                        return height == 0;
                    }
                    push(join);
                }
            }
            return false;
        }

        /** Behind a test: the not ahead of it, and each ( that is closed there, are done. */
        private void closeWhatEnds() {
            dropNots();
            for (int i = 0; i < DEEPEST && deep > 0 && takes(')'); i++) {
                settle(OR);
                height = Math.max(0, height - 1);
                deep--;
                dropNots();
            }
        }

        private void dropNots() {
            while (height > 0 && height <= OPEN && open[height - 1] == NOT) {
                emit(NOT);
                height--;
                deep--;
            }
        }

        /** An and that is open binds ahead of all that comes; an or only ahead of another one, and of an end. */
        private void settle(int binding) {
            if (height > 0 && height <= OPEN && open[height - 1] == AND) {
                emit(AND);
                height--;
            }
            if (binding == OR && height > 0 && height <= OPEN && open[height - 1] == OR) {
                emit(OR);
                height--;
            }
        }

        private void push(int what) {
            if (height >= 0 && height < OPEN) {
                open[height] = what;
                height++;
            }
        }

        private boolean readCompared() {
            int head = size;
            emit('<');
            if (!readSum()) {
                return false;
            }
            if (takes('>')) {
                amend(head, '>');
            } else if (!takes('<')) {
                return false;
            }
            return readSum();
        }

        private boolean readSum() {
            int head = size;
            emit(0);
            int sign = 1;
            for (int parts = 1; parts <= TAPE; parts++) {
                if (!readPart(sign)) {
                    return false;
                }
                amend(head, parts);
                if (takes('+')) {
                    sign = 1;
                } else if (takes('-')) {
                    sign = -1;
                } else {
                    return true;
                }
            }
            return false;
        }

        private boolean readPart(int sign) {
            int times = sign;
            if (takeNumber(0, MOST_NUMBER)) {
                int first = taken;
                if (!takes('*')) {
                    return emitPart(sign, NUMBER, first);
                }
                times = sign * first;
                if (takeNumber(0, MOST_NUMBER)) {
                    return emitPart(times, NUMBER, taken);
                }
            }
            if (takes(DAY)) {
                return emitPart(times, DAY, 0);
            }
            if (takes(WEATHER)) {
                return emitPart(times, WEATHER, 0);
            }
            int what = takes(WORD) ? WORD : takes(OLD) ? OLD : END;
            if (what == END || !takeNumber(0, WORDS - 1)) {
                return false;
            }
            if (what == WORD) {
                named |= 1L << taken;
            }
            return emitPart(times, what, taken);
        }

        private boolean takeTarget(int what) {
            if (!takeNumber(FIRST_OF_JOBS, WORDS - 1)) {
                return false;
            }
            emit(what);
            emit(taken);
            writes |= 1L << taken;
            return true;
        }

        private int kind() {
            return at >= 0 && at < things && at <= TAPE ? kinds[at] : END;
        }

        private int begin() {
            return at >= 0 && at < things && at <= TAPE ? begins[at] : NONE;
        }

        private boolean takes(int kind) {
            if (at < 0 || at >= things || at > TAPE || kinds[at] != kind) {
                return false;
            }
            at++;
            return true;
        }

        private boolean takeNumber(int least, int most) {
            if (at < 0 || at >= things || at > TAPE || kinds[at] != NUMBER
                    || numbers[at] < least || numbers[at] > most) {
                return false;
            }
            taken = numbers[at];
            at++;
            return true;
        }

        private void scan(int until) {
            things = 0;
            int i = 0;
            while (i < until) {
                int end = endOfThing(i, until);
                if (byteAt(i) != ' ') {
                    addThing(kindOf(i, end), i, end);
                }
                i = Math.max(i + 1, end);
            }
            addThing(END, until, until);
        }

        private int endOfThing(int begin, int until) {
            int end = begin + 1;
            if (isDigit(byteAt(begin))) {
                while (end < until && isDigit(byteAt(end))) {
                    end++;
                }
            } else if (isLetter(byteAt(begin))) {
                while (end < until && isLetter(byteAt(end))) {
                    end++;
                }
            }
            return end;
        }

        private int kindOf(int begin, int end) {
            int sign = byteAt(begin);
            if (isDigit(sign)) {
                return end - begin > DIGITS ? NO_THING : NUMBER;
            }
            return isLetter(sign) ? kindOfWord(begin, end) : sign;
        }

        /** Goes along all words that are known; same tells how far the one at hand is the same. */
        private int kindOfWord(int begin, int end) {
            int kind = REPEAT;
            int same = begin;
            for (int i = 0; i < KNOWN.length(); i++) {
                char sign = KNOWN.charAt(i);
                if (sign == ' ') {
                    if (same == end) {
                        return kind;
                    }
                    kind++;
                    same = begin;
                } else {
                    same = same != NONE && same < end && byteAt(same) == sign ? same + 1 : NONE;
                }
            }
            return NO_THING;
        }

        private void addThing(int kind, int begin, int end) {
            if (things < 0 || things > TAPE) {
                return;
            }
            int number = 0;
            for (int i = begin; kind == NUMBER && i < end; i++) {
                number = 10 * number + byteAt(i) - '0';
            }
            kinds[things] = kind;
            begins[things] = begin;
            numbers[things] = number;
            things++;
        }

        private int byteAt(int i) {
            return i >= 0 && i < TAPE ? bytes[i] : END;
        }

        private static boolean isDigit(int sign) {
            return sign >= '0' && sign <= '9';
        }

        private static boolean isLetter(int sign) {
            return sign >= 'a' && sign <= 'z';
        }

        private boolean emitPart(int times, int what, int of) {
            if (size < 0 || size + 3 > code.length) {
                return false;
            }
            code[size] = times;
            code[size + 1] = what;
            code[size + 2] = of;
            size += 3;
            return true;
        }

        private void emit(int n) {
            if (size >= 0 && size < code.length) {
                code[size] = n;
                size++;
            }
        }

        private void amend(int place, int n) {
            if (place >= 0 && place < code.length) {
                code[place] = n;
            }
        }
    }

    /** Does what a text means over its store. */
    private static final class Doer {
        final Store store = new Store();
        private Text text;
        private int at;
        private int day;
        private int weather;
        private int carried = NONE;
        private long carry;
        int asked;

        /** Whether the text was done to its end. */
        boolean doText(Text text, int day, int weather) {
            this.text = text;
            this.day = day;
            this.weather = weather;
            at = 0;
            asked = 0;
            int lines = text == null ? 0 : text.lines;
            boolean fine = true;
            for (int line = 0; line < lines && fine; line++) {
                switch (nextCode()) {
                    case SET: fine = doSet(nextCode(), nextCode()); break;
                    case SUM: fine = doTotal(nextCode(), nextCode(), nextCode()); break;
                    case ROUND: fine = doRound(nextCode(), nextCode()); break;
                    case ASK: asked += holds() ? 1 : 0; break;
                    default: fine = !holds(); break;
                }
            }
            return fine;
        }

        boolean doShortly(long words, int more) {
            for (int word = 0; word < WORDS; word++) {
                if ((words >>> word & 1L) != 0L && !put(word, (long) store.oldAt(word) + more)) {
                    return false;
                }
            }
            return true;
        }

        private boolean doSet(int word, int repeats) {
            int begin = at;
            long value = 0L;
            boolean fine = true;
            for (int i = 0; i < repeats && fine; i++) {
                at = begin;
                value = sum();
                fine = !outOfBounds(value);
                carried = word;
                carry = value;
            }
            carried = NONE;
            return fine && put(word, value);
        }

        private boolean doTotal(int word, int from, int to) {
            long value = 0L;
            for (int i = from; i <= to && i < WORDS; i++) {
                value += store.wordAt(i);
            }
            return put(word, value);
        }

        private boolean doRound(int word, int by) {
            if (by <= 0) {
                return false;
            }
            long value = store.wordAt(word);
            long above = Math.floorMod(value, (long) by);
            return put(word, 2L * above >= by ? value - above + by : value - above);
        }

        private boolean put(int word, long value) {
            if (outOfBounds(value)) {
                return false;
            }
            store.write(word, (int) value);
            return true;
        }

        /** Whether the condition that comes holds: its tests are bits of a stack. */
        private boolean holds() {
            long stack = 0L;
            for (int i = 0; i < CODE; i++) {
                switch (nextCode()) {
                    case '<': stack = stack << 1 | (sum() < sum() ? 1L : 0L); break;
                    case '>': stack = stack << 1 | (sum() > sum() ? 1L : 0L); break;
                    case NOT: stack ^= 1L; break;
                    case AND: stack = (stack >>> 1) & (stack | ~1L); break;
                    case OR: stack = (stack >>> 1) | (stack & 1L); break;
                    default: return (stack & 1L) != 0L;
                }
            }
            return false;
        }

        private long sum() {
            int parts = nextCode();
            long value = 0L;
            for (int i = 0; i < parts && i < TAPE; i++) {
                long times = nextCode();
                int what = nextCode();
                value += times * atom(what, nextCode());
            }
            return value;
        }

        private long atom(int what, int of) {
            switch (what) {
                case NUMBER: return of;
                case WORD: return of == carried ? carry : store.wordAt(of);
                case OLD: return store.oldAt(of);
                case DAY: return day;
                case WEATHER: return weather;
                default: return 0L;
            }
        }

        private int nextCode() {
            int n = text == null ? 0 : text.codeAt(at);
            at++;
            return n;
        }
    }

    /** A job, and how far it is. */
    private static final class Job {
        int minutes;
        int worth;
        int hand;
        int point;
        boolean wage;
        Text text;
        int shortMinutes;
        int shortWorth;
        int more;
        int state;
        int way;
        int began;
        int left;
        int handDone;
        int doneAt;
        int done;
        int failed;
        int asked;

        void setUp(int minutes, int worth, int hand, int point, boolean wage, Text text) {
            this.minutes = minutes;
            this.worth = worth;
            this.hand = hand;
            this.point = point;
            this.wage = wage;
            this.text = text;
            shortMinutes = 0;
            shortWorth = 0;
            more = 0;
            state = WAITS;
            way = WHOLE;
            began = 0;
            left = 0;
            handDone = 0;
            doneAt = NONE;
            done = 0;
            failed = 0;
            asked = 0;
        }

        long reads() {
            return text == null ? 0L : text.reads;
        }

        long writes() {
            return text == null ? 0L : text.writes;
        }

        boolean hasWay(int how) {
            return how == WHOLE || how == SHORT && shortMinutes > 0 || how == BY_HAND && hand > 0;
        }

        void begin() {
            state = RUNS;
            began = way == SHORT ? shortMinutes : minutes;
            left = began;
        }

        /** Back to the point where it was kept last. */
        void fallBack() {
            int gone = began - left;
            left = point > 0 ? began - gone / point * point : began;
        }

        void leave(int ended, int minute) {
            state = ended;
            left = 0;
            doneAt = minute;
            done++;
            if (ended == FAILED) {
                failed++;
            }
        }

        int shown(int what) {
            switch (what) {
                case 0: return state;
                case 1: return left;
                case 2: return handDone;
                case 3: return way;
                case 4: return text == null ? 0 : text.lines;
                case 5: return doneAt;
                case 6: return done;
                case 7: return failed;
                case 8: return asked;
                default: return NONE;
            }
        }

        void copyFrom(Job other) {
            minutes = other.minutes;
            worth = other.worth;
            hand = other.hand;
            point = other.point;
            wage = other.wage;
            text = other.text;
            shortMinutes = other.shortMinutes;
            shortWorth = other.shortWorth;
            more = other.more;
            state = other.state;
            way = other.way;
            began = other.began;
            left = other.left;
            handDone = other.handDone;
            doneAt = other.doneAt;
            done = other.done;
            failed = other.failed;
            asked = other.asked;
        }
    }

    /** The jobs, on which others they lean, and their order. */
    private static final class Jobs {
        private final Job[] all = new Job[JOBS];
        private final int[] leaning = new int[JOBS];
        private final int[] ordered = new int[JOBS];
        private final int[] doneWhen = new int[JOBS];
        private boolean hasOrder = true;
        int count;
        private final Job nobody = new Job();

        Jobs() {
            for (int i = 0; i < JOBS; i++) {
                all[i] = new Job();
            }
        }

        Job at(int job) {
            return job >= 0 && job < JOBS && all[job] != null ? all[job] : nobody;
        }

        int leansOf(int job) {
            return job >= 0 && job < JOBS ? leaning[job] : 0;
        }

        /** The job that was set up last is one of them: its number. */
        int admit() {
            int number = count;
            count = Math.min(count + 1, JOBS);
            findLeaning();
            findOrder();
            return number;
        }

        private void findLeaning() {
            for (int i = 0; i < count && i < JOBS; i++) {
                int bits = 0;
                for (int j = 0; j < count; j++) {
                    if (j != i && (at(i).reads() & at(j).writes()) != 0L) {
                        bits |= 1 << j;
                    }
                }
                leaning[i] = bits;
            }
        }

        private void findOrder() {
            int have = 0;
            hasOrder = true;
            for (int place = 0; place < count && place < JOBS; place++) {
                int job = nextPlaced(have);
                if (job == NONE) {
                    hasOrder = false;
                    return;
                }
                ordered[place] = job;
                have |= 1 << job;
            }
        }

        private int nextPlaced(int have) {
            for (int job = 0; job < count; job++) {
                if ((have >>> job & 1) == 0 && (leansOf(job) & ~have) == 0) {
                    return job;
                }
            }
            return NONE;
        }

        int placed(int place) {
            return hasOrder && place >= 0 && place < count && place < JOBS ? ordered[place] : NONE;
        }

        int placeOf(int job) {
            for (int place = 0; place < count; place++) {
                if (placed(place) == job) {
                    return place;
                }
            }
            return NONE;
        }

        int quarrelAt(int n) {
            int found = 0;
            for (int i = 0; i < count; i++) {
                for (int j = i + 1; j < count; j++) {
                    if ((at(i).writes() & at(j).writes()) != 0L) {
                        if (found == n) {
                            return JOBS * i + j;
                        }
                        found++;
                    }
                }
            }
            return NONE;
        }

        int nextForMachine() {
            int ready = endedBits();
            for (int place = 0; place < count; place++) {
                int job = hasOrder ? placed(place) : place;
                Job row = at(job);
                if (row.state == WAITS && row.way != BY_HAND && (leansOf(job) & ~ready) == 0) {
                    return job;
                }
            }
            return NONE;
        }

        int nextForClerks() {
            for (int job = 0; job < count; job++) {
                if (at(job).state == WAITS && at(job).way == BY_HAND) {
                    return job;
                }
            }
            return NONE;
        }

        private int endedBits() {
            int bits = 0;
            for (int job = 0; job < count; job++) {
                int state = at(job).state;
                if (state == ENDED || state == ENDED_SHORT || state == DONE_BY_HAND) {
                    bits |= 1 << job;
                }
            }
            return bits;
        }

        boolean beyondDoubt(int job, long bad) {
            int among = withAllBehind(job);
            for (int i = 0; i < count; i++) {
                Job row = at(i);
                boolean sure = (row.state == ENDED || row.state == DONE_BY_HAND) && (row.writes() & bad) == 0L;
                if ((among >>> i & 1) != 0 && !sure) {
                    return false;
                }
            }
            return true;
        }

        private int withAllBehind(int job) {
            int among = 1 << job;
            for (int round = 0; round < count; round++) {
                for (int i = 0; i < count; i++) {
                    if ((among >>> i & 1) != 0) {
                        among |= leansOf(i);
                    }
                }
            }
            return among;
        }

        boolean wagesMayBePaid(long bad) {
            boolean any = false;
            for (int job = 0; job < count; job++) {
                if (at(job).wage) {
                    any = true;
                    if (!beyondDoubt(job, bad)) {
                        return false;
                    }
                }
            }
            return any;
        }

        int byClerksAlone() {
            int together = 0;
            for (int job = 0; job < count; job++) {
                if (at(job).hand == 0) {
                    return NONE;
                }
                together += at(job).hand;
            }
            return together;
        }

        int withTwoMachines() {
            if (!hasOrder) {
                return NONE;
            }
            int first = 0;
            int second = 0;
            for (int place = 0; place < count; place++) {
                int job = placed(place);
                int begin = Math.max(Math.min(first, second), leansDone(job));
                int end = begin + at(job).minutes;
                if (job >= 0 && job < JOBS) {
                    doneWhen[job] = end;
                }
                if (first <= second) {
                    first = end;
                } else {
                    second = end;
                }
            }
            return Math.max(first, second);
        }

        private int leansDone(int job) {
            int latest = 0;
            for (int i = 0; i < count && i < JOBS; i++) {
                if ((leansOf(job) >>> i & 1) != 0) {
                    latest = Math.max(latest, doneWhen[i]);
                }
            }
            return latest;
        }

        int waiting() {
            int waiting = 0;
            for (int job = 0; job < count; job++) {
                if (at(job).state == WAITS) {
                    waiting++;
                }
            }
            return waiting;
        }

        int askedTogether() {
            int together = 0;
            for (int job = 0; job < count; job++) {
                together += at(job).asked;
            }
            return together;
        }

        int failedTogether() {
            int together = 0;
            for (int job = 0; job < count; job++) {
                together += at(job).failed;
            }
            return together;
        }

        void copyFrom(Jobs other) {
            for (int i = 0; i < JOBS; i++) {
                at(i).copyFrom(other.at(i));
            }
            System.arraycopy(other.leaning, 0, leaning, 0, JOBS);
            System.arraycopy(other.ordered, 0, ordered, 0, JOBS);
            hasOrder = other.hasOrder;
            count = other.count;
        }
    }

    /** What shops wanted in earlier nights. */
    private static final class Wants {
        private final int[] places = new int[WANTS];
        private final int[] days = new int[WANTS];
        private final int[] weathers = new int[WANTS];
        private final int[] numbers = new int[WANTS];
        int count;
        private int found;
        private int together;
        private int weatherTogether;
        private int least;
        private int greatest;

        int note(int place, int day, int weather, int n) {
            if (count < 0 || count >= WANTS) {
                return NONE;
            }
            places[count] = place;
            days[count] = day;
            weathers[count] = weather;
            numbers[count] = n;
            count++;
            return count;
        }

        /** Looks up the latest ones of a shop, a good and a day. */
        void find(int place, int day) {
            found = 0;
            together = 0;
            weatherTogether = 0;
            least = NONE;
            greatest = NONE;
            for (int i = Math.min(count, WANTS) - 1; i >= 0 && found < LATEST_WANTS; i--) {
                if (places[i] == place && days[i] == day) {
                    least = found == 0 ? numbers[i] : Math.min(least, numbers[i]);
                    greatest = Math.max(greatest, numbers[i]);
                    together += numbers[i];
                    weatherTogether += weathers[i];
                    found++;
                }
            }
        }

        int foretold(int weather, int what) {
            switch (what) {
                case 0: return found <= 0 ? NONE
                        : Math.max(0, together / found + 2 * (weather - weatherTogether / found));
                case 1: return least;
                case 2: return greatest;
                default: return found;
            }
        }

        boolean isFar(int n) {
            return found > 0 && (n < least / 2 || n > 2 * greatest);
        }

        void copyFrom(Wants other) {
            System.arraycopy(other.places, 0, places, 0, WANTS);
            System.arraycopy(other.days, 0, days, 0, WANTS);
            System.arraycopy(other.weathers, 0, weathers, 0, WANTS);
            System.arraycopy(other.numbers, 0, numbers, 0, WANTS);
            count = other.count;
        }
    }

    /** The goods, the ovens that bake them, and the vans that bring them. */
    private static final class Bakery {
        // three ovens or vans for each of four goods or shops
        private static final int WAYS = 81;

        private final int[] batches = new int[GOODS];
        private final int[] heats = new int[GOODS];
        private final int[] weights = new int[GOODS];
        private final int[] prices = new int[GOODS];
        private final int[] rooms = new int[VANS];
        private final int[] noRooms = new int[VANS];
        private int ovenCoin;
        private int vanCoin;
        private final long[] parts = new long[GOODS];
        private final long[] loads = new long[VANS];

        Bakery() {
            Arrays.fill(batches, 1);
            Arrays.fill(heats, 1);
            Arrays.fill(weights, 1);
        }

        void setGood(int good, int batch, int heat, int weight, int price) {
            if (good >= 0 && good < GOODS) {
                batches[good] = batch;
                heats[good] = heat;
                weights[good] = weight;
                prices[good] = price;
            }
        }

        void setFleet(int a, int b, int c, int ovens, int vans) {
            rooms[0] = a;
            rooms[1] = b;
            rooms[2] = c;
            ovenCoin = ovens;
            vanCoin = vans;
        }

        private static long wantedBy(Store store, int shop, int good) {
            return Math.max(0, store.wordAt(GOODS * shop + good));
        }

        private static long wantedByAll(Store store, int good) {
            long together = 0L;
            for (int shop = 0; shop < SHOPS; shop++) {
                together += wantedBy(store, shop, good);
            }
            return together;
        }

        private void partByMinutes(Store store) {
            for (int good = 0; good < GOODS; good++) {
                long batch = Math.max(1, batches[good]);
                parts[good] = (wantedByAll(store, good) + batch - 1L) / batch * heats[good];
            }
        }

        private void partByWeight(Store store) {
            for (int good = 0; good < GOODS; good++) {
                parts[good] = wantedByAll(store, good) * weights[good];
            }
        }

        private void partByShops(Store store) {
            for (int shop = 0; shop < SHOPS; shop++) {
                parts[shop] = 0L;
                for (int good = 0; good < GOODS; good++) {
                    parts[shop] += wantedBy(store, shop, good) * weights[good];
                }
            }
        }

        long ovensEnd(Store store) {
            partByMinutes(store);
            return leastAbove(noRooms);
        }

        long leastLoads(Store store) {
            partByShops(store);
            return leastAbove(rooms);
        }

        private long leastAbove(int[] room) {
            long best = mostAbove(room, 0);
            for (int way = 1; way < WAYS; way++) {
                best = Math.min(best, mostAbove(room, way));
            }
            return best;
        }

        /** What the fullest has above its room, when part by part goes where the digits of the way say. */
        private long mostAbove(int[] room, int way) {
            Arrays.fill(loads, 0L);
            int digits = way;
            for (int i = 0; i < GOODS; i++) {
                loads[Math.floorMod(digits, VANS)] += parts[i];
                digits /= VANS;
            }
            long most = 0L;
            for (int i = 0; i < VANS && i < room.length; i++) {
                most = Math.max(most, loads[i] - room[i]);
            }
            return most;
        }

        long costOf(Store store, int good) {
            long number = wantedByAll(store, good);
            if (number == 0L || good < 0 || good >= GOODS) {
                return 0L;
            }
            partByMinutes(store);
            long cost = prices[good] * number + shareOf(good, ovenCoin);
            partByWeight(store);
            return cost + shareOf(good, vanCoin);
        }

        private long shareOf(int good, long coin) {
            long whole = 0L;
            for (int i = 0; i < GOODS; i++) {
                whole += parts[i];
            }
            if (whole <= 0L || good < 0 || good >= GOODS) {
                return 0L;
            }
            long rest = coin;
            int ahead = 0;
            for (int i = 0; i < GOODS; i++) {
                rest -= coin * parts[i] / whole;
                if (i < good && parts[i] > 0L) {
                    ahead++;
                }
            }
            long own = coin * parts[good] / whole;
            return ahead < rest ? own + 1L : own;
        }

        void copyFrom(Bakery other) {
            System.arraycopy(other.batches, 0, batches, 0, GOODS);
            System.arraycopy(other.heats, 0, heats, 0, GOODS);
            System.arraycopy(other.weights, 0, weights, 0, GOODS);
            System.arraycopy(other.prices, 0, prices, 0, GOODS);
            System.arraycopy(other.rooms, 0, rooms, 0, VANS);
            ovenCoin = other.ovenCoin;
            vanCoin = other.vanCoin;
        }
    }

    /** The workers and their wages. */
    private static final class Payroll {
        private static final int FULL_WEEK = 40;

        private final int[] hours = new int[WORKERS];
        private final int[] pence = new int[WORKERS];
        private final int[] hands = new int[WORKERS];
        private final int[] altered = new int[WORKERS];
        int count;
        boolean paid;

        int hire(int worked, int wage) {
            if (count < 0 || count >= WORKERS) {
                return NONE;
            }
            hours[count] = worked;
            pence[count] = wage;
            hands[count] = NONE;
            altered[count] = 0;
            count++;
            return count - 1;
        }

        boolean change(int worker, int worked, int hand) {
            if (worker < 0 || worker >= WORKERS || hours[worker] == worked) {
                return false;
            }
            hours[worker] = worked;
            hands[worker] = hand;
            altered[worker]++;
            return true;
        }

        int shown(int worker, int what) {
            if (worker < 0 || worker >= WORKERS) {
                return NONE;
            }
            switch (what) {
                case 0: return due(worker);
                case 1: return hours[worker];
                case 2: return hands[worker];
                default: return altered[worker];
            }
        }

        private int due(int worker) {
            if (worker < 0 || worker >= WORKERS) {
                return 0;
            }
            int above = Math.max(0, hours[worker] - FULL_WEEK);
            return (2 * hours[worker] + above) * pence[worker] / 2;
        }

        int together() {
            int together = 0;
            for (int worker = 0; worker < count; worker++) {
                together += due(worker);
            }
            return together;
        }

        void copyFrom(Payroll other) {
            System.arraycopy(other.hours, 0, hours, 0, WORKERS);
            System.arraycopy(other.pence, 0, pence, 0, WORKERS);
            System.arraycopy(other.hands, 0, hands, 0, WORKERS);
            System.arraycopy(other.altered, 0, altered, 0, WORKERS);
            count = other.count;
            paid = other.paid;
        }
    }

    /** The best choice for the first jobs that wait, when time is lost. */
    private static final class Plan {
        private final int[] numbers = new int[PLANNED];
        private final int[] trial = new int[PLANNED];
        private final int[] best = new int[PLANNED];
        // at a place: what the jobs ahead of it come to, and the most that those from it on may bring
        private final int[] worths = new int[PLANNED + 1];
        private final int[] machines = new int[PLANNED + 1];
        private final int[] hands = new int[PLANNED + 1];
        private final int[] droppeds = new int[PLANNED + 1];
        private final int[] needed = new int[PLANNED + 1];
        private final int[] most = new int[PLANNED + 1];
        private int count;
        private int machine;
        private int clerks;
        private int worthOfBest;
        private int machineOfBest;
        private int clerksOfBest;

        int bestWorth(Jobs jobs, int machine, int clerks) {
            this.machine = machine;
            this.clerks = clerks;
            worthOfBest = NONE;
            machineOfBest = 0;
            clerksOfBest = 0;
            pick(jobs);
            search(jobs, 0);
            return worthOfBest;
        }

        int chosen(int job) {
            for (int place = 0; place < count && place < PLANNED; place++) {
                if (numbers[place] == job) {
                    return best[place];
                }
            }
            return NONE;
        }

        private void pick(Jobs jobs) {
            count = 0;
            for (int job = 0; job < jobs.count && count >= 0 && count < PLANNED; job++) {
                if (jobs.at(job).state == WAITS) {
                    numbers[count] = job;
                    count++;
                }
            }
            most[PLANNED] = 0;
            for (int place = PLANNED - 1; place >= 0; place--) {
                most[place] = place < count ? most[place + 1] + mostOf(jobs.at(numbers[place])) : 0;
            }
        }

        private static int mostOf(Job row) {
            return row.hasWay(SHORT) ? Math.max(row.worth, row.shortWorth) : row.worth;
        }

        private void search(Jobs jobs, int place) {
            if (place < 0 || place > PLANNED
                    || !isBetter(worths[place] + most[place], machines[place], hands[place])) {
                return;
            }
            if (place >= count || place >= PLANNED) {
                worthOfBest = worths[place];
                machineOfBest = machines[place];
                clerksOfBest = hands[place];
                System.arraycopy(trial, 0, best, 0, PLANNED);
                return;
            }
            for (int how = WHOLE; how <= LEFT_OUT; how++) {
                attempt(jobs, place, how);
            }
        }

        private void attempt(Jobs jobs, int place, int how) {
            if (place < 0 || place >= PLANNED || !mayHave(jobs, place, how)) {
                return;
            }
            int number = numbers[place];
            Job row = jobs.at(number);
            int next = place + 1;
            boolean left = how == LEFT_OUT;
            worths[next] = worths[place] + (left ? 0 : how == SHORT ? row.shortWorth : row.worth);
            machines[next] = machines[place] + (how == WHOLE ? row.minutes : how == SHORT ? row.shortMinutes : 0);
            hands[next] = hands[place] + (how == BY_HAND ? row.hand : 0);
            droppeds[next] = droppeds[place] | (left ? 1 << number : 0);
            needed[next] = needed[place] | (left ? 0 : jobs.leansOf(number));
            if (machines[next] <= machine && hands[next] <= clerks) {
                trial[place] = how;
                search(jobs, next);
            }
        }

        private boolean mayHave(Jobs jobs, int place, int how) {
            if (place < 0 || place >= PLANNED) {
                return false;
            }
            int number = numbers[place];
            if (how == LEFT_OUT) {
                return (needed[place] >>> number & 1) == 0;
            }
            return jobs.at(number).hasWay(how) && (jobs.leansOf(number) & droppeds[place]) == 0;
        }

        /** Whether that is better than the best; of equals the first found stays, for it has the first ways. */
        private boolean isBetter(int worth, int onMachine, int byHand) {
            if (worth != worthOfBest) {
                return worth > worthOfBest;
            }
            if (onMachine != machineOfBest) {
                return onMachine < machineOfBest;
            }
            return byHand < clerksOfBest;
        }
    }
}
