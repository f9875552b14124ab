/** The edges of plans, of the night by clerks or with two machines, of rows and of the image: the document's ==== 6. */
public final class EdgePlanTest {
    private static final int NONE = -1;
    private static final int RUN = 0;
    private static final int SHORT = 1;
    private static final int HAND = 2;
    private static final int DROPPED = 3;

    public static void main(String[] args) {
        exactlySoMany();
        nothingChanges();
        firstSeven();
        waysThatAreNone();
        noneLeansOnADropped();
        greatestWorth();
        fewestOfMachine();
        fewestOfClerks();
        firstByWhatItHas();
        byClerksAlone();
        withTwoMachines();
        latestEight();
        torn();
        checked();
        oneImage();
        notTheTape();
        Due.finish();
    }

    private static TeaNight jobs(String... numbers) {
        TeaNight x = new TeaNight();
        for (int i = 0; i < numbers.length; i++) {
            String[] n = numbers[i].split(" ");
            Due.job(x, "set " + (16 + i) + "=1", Integer.parseInt(n[0]), Integer.parseInt(n[1]), Integer.parseInt(n[2]), 0, false);
            if (n.length > 3) {
                x.shorter(i, Integer.parseInt(n[3]), Integer.parseInt(n[4]), 0);
            }
        }
        return x;
    }

    /** Minutes of the machine, of clerks, the worth, and what each job has. */
    private static void plan(TeaNight x, int... want) {
        Due.same("plan " + want[0] + ", " + want[1], x.plan(want[0], want[1]), want[2]);
        for (int job = 0; job + 3 < want.length; job++) {
            Due.same("which " + want[0] + ", " + want[1] + ", " + job, x.which(want[0], want[1], job), want[job + 3]);
        }
    }

    // "With so many MINUTES of the machine, and so many of clerks"
    private static void exactlySoMany() {
        TeaNight x = jobs("5 10 8");
        plan(x, 0, 0, 0, DROPPED);
        plan(x, 4, 7, 0, DROPPED);
        plan(x, 5, 0, 10, RUN);
        plan(x, 0, 8, 10, HAND);
        plan(x, 4, 8, 10, HAND);
        plan(x, 1000, 1000, 10, HAND);
        plan(x, 1000, 7, 10, RUN);
        TeaNight y = jobs("60 1 480", "60 2 480", "60 4 480");
        plan(y, 0, 1000, 6, DROPPED, HAND, HAND);
        plan(y, 0, 959, 4, DROPPED, DROPPED, HAND);
        plan(y, 180, 0, 7, RUN, RUN, RUN);
        plan(y, 179, 0, 6, DROPPED, RUN, RUN);
        plan(y, 119, 480, 6, DROPPED, RUN, HAND);
        Due.same("nothing waits", new TeaNight().plan(1000, 1000), 0);
        TeaNight z = jobs("1 1 1", "1 1 1", "1 1 1", "1 1 1", "1 1 1", "1 1 1", "1 1 1");
        plan(z, 0, 0, 0, DROPPED, DROPPED, DROPPED, DROPPED, DROPPED, DROPPED, DROPPED);
        plan(z, 1, 0, 1, RUN, DROPPED, DROPPED, DROPPED, DROPPED, DROPPED, DROPPED);
        plan(z, 0, 1, 1, HAND, DROPPED, DROPPED, DROPPED, DROPPED, DROPPED, DROPPED);
        plan(z, 3, 3, 6, RUN, RUN, RUN, HAND, HAND, HAND, DROPPED);
        plan(z, 4, 3, 7, RUN, RUN, RUN, RUN, HAND, HAND, HAND);
        plan(z, 3, 4, 7, RUN, RUN, RUN, HAND, HAND, HAND, HAND);
        plan(z, 7, 7, 7, HAND, HAND, HAND, HAND, HAND, HAND, HAND);
        plan(jobs("5 0 5", "5 0 5", "5 0 5", "5 0 5", "5 0 5", "5 0 5", "5 0 5"), 35, 35, 0, DROPPED, DROPPED, DROPPED, DROPPED, DROPPED, DROPPED,
                DROPPED);
    }

    // "PLANS (nothing changes by them)"
    private static void nothingChanges() {
        Edge.nothing("a plan", 21, () -> {
            TeaNight x = jobs("5 10 8", "5 10 8", "5 1 0");
            x.feed(0, 0, 0, 0, 0);
            return x;
        }, x -> x.plan(15, 0), x -> x.plan(10, 8), x -> x.plan(5, 16));
        Edge.nothing("which", 2, () -> jobs("5 10 8"), x -> x.which(4, 8, 0), x -> x.which(0, 8, 0));
        Edge.nothing("beside by clerks", 17, () -> jobs("5 10 8", "7 1 9"), x -> x.beside(false));
        Edge.nothing("beside with two", 7, () -> jobs("5 10 8", "7 1 9"), x -> x.beside(true));
    }

    // "of the jobs that wait (the first 7 by numbers)"; "NONE, if it is not one of those"
    private static void firstSeven() {
        TeaNight x = jobs("1 1 0", "1 2 0", "1 4 0", "1 8 0", "1 16 0", "1 32 0", "1 64 0", "1 128 0", "1 256 0", "1 512 0", "1 1000 0",
                "1 999 0");
        plan(x, 1000, 0, 127, RUN, RUN, RUN, RUN, RUN, RUN, RUN, NONE, NONE, NONE, NONE, NONE);
        plan(x, 1, 0, 64, DROPPED, DROPPED, DROPPED, DROPPED, DROPPED, DROPPED, RUN, NONE);
        x.drop(3);
        plan(x, 1000, 0, 127 - 8 + 128, RUN, RUN, RUN, NONE, RUN, RUN, RUN, RUN, NONE);
        x.minutes(1);
        plan(x, 1000, 0, 126 - 8 + 128 + 256, NONE, RUN, RUN, NONE, RUN, RUN, RUN, RUN, RUN, NONE, NONE, NONE);
        for (int i = 4; i < 11; i++) {
            x.drop(i);
        }
        plan(x, 1000, 0, 2 + 4 + 999, NONE, RUN, RUN, NONE, NONE, NONE, NONE, NONE, NONE, NONE, NONE, RUN);
        x.drop(1);
        x.drop(2);
        x.drop(11);
        plan(x, 1000, 1000, 0, NONE, NONE, NONE, NONE);
        // one that runs does not wait
        TeaNight y = jobs("5 10 8", "5 10 8");
        y.minutes(1);
        plan(y, 1000, 1000, 10, NONE, HAND);
        // by hand it waits until it is done; what a clerk has done, and the way, do not count
        TeaNight z = jobs("5 10 8");
        z.way(0, 2);
        z.minutes(7);
        plan(z, 5, 0, 10, RUN);
        plan(z, 0, 7, 0, DROPPED);
        plan(z, 0, 8, 10, HAND);
        z.minutes(1);
        plan(z, 5, 8, 0, NONE);
    }

    // a SHORT way of 0 MINUTES is none, HAND MINUTES 0 are none
    private static void waysThatAreNone() {
        TeaNight x = jobs("5 10 0");
        plan(x, 4, 1000, 0, DROPPED);
        x.shorter(0, 0, 1000, 0);
        plan(x, 4, 1000, 0, DROPPED);
        plan(x, 5, 1000, 10, RUN);
        x.shorter(0, 1, 3, 0);
        plan(x, 4, 1000, 3, SHORT);
        plan(x, 1, 0, 3, SHORT);
        plan(x, 0, 0, 0, DROPPED);
        plan(x, 5, 0, 10, RUN);
        x.shorter(0, 1, 1000, 0);
        plan(x, 5, 0, 1000, SHORT);
        x.shorter(0, 60, 1000, 0);
        plan(x, 59, 0, 10, RUN);
        plan(x, 60, 0, 1000, SHORT);
        TeaNight y = jobs("5 10 1 4 30");
        plan(y, 5, 1, 30, SHORT);
        plan(y, 3, 1, 10, HAND);
    }

    // "so that none that is not dropped leans on one of these that is"
    private static void noneLeansOnADropped() {
        TeaNight x = new TeaNight();
        Due.job(x, "set 16=word 17", 5, 1000, 1, 0, false);
        Due.job(x, "set 17=word 18", 5, 0, 0, 0, false);
        Due.job(x, "set 18=1", 5, 0, 3, 0, false);
        x.shorter(0, 1, 900, 0);
        plan(x, 9, 0, 0, DROPPED, DROPPED, DROPPED);
        plan(x, 10, 0, 0, DROPPED, DROPPED, DROPPED);
        plan(x, 11, 0, 900, SHORT, RUN, RUN);
        plan(x, 10, 1, 1000, HAND, RUN, RUN);
        plan(x, 5, 3, 0, DROPPED, DROPPED, DROPPED);
        plan(x, 6, 3, 900, SHORT, RUN, HAND);
        plan(x, 5, 4, 1000, HAND, RUN, HAND);
        plan(x, 15, 0, 1000, RUN, RUN, RUN);
        // on one of a lesser number
        TeaNight w = new TeaNight();
        Due.job(w, "set 16=1", 5, 0, 0, 0, false);
        Due.job(w, "set 17=1", 5, 0, 0, 0, false);
        Due.job(w, "set 18=word 16", 1, 10, 0, 0, false);
        Due.job(w, "set 19=word 17", 1, 20, 1, 0, false);
        plan(w, 4, 1, 0, DROPPED, DROPPED, DROPPED, DROPPED);
        plan(w, 5, 0, 0, DROPPED, DROPPED, DROPPED, DROPPED);
        plan(w, 5, 1, 20, DROPPED, RUN, DROPPED, HAND);
        plan(w, 6, 0, 20, DROPPED, RUN, DROPPED, RUN);
        plan(w, 6, 1, 20, DROPPED, RUN, DROPPED, HAND);
        plan(w, 11, 0, 20, DROPPED, RUN, DROPPED, RUN);
        plan(w, 11, 1, 30, RUN, RUN, RUN, HAND);
        plan(w, 12, 0, 30, RUN, RUN, RUN, RUN);
        // what does not wait is none of these
        x.drop(2);
        plan(x, 10, 0, 1000, RUN, RUN, NONE);
        x.drop(1);
        plan(x, 5, 0, 1000, RUN, NONE, NONE);
        // two that lean on one another: both or none
        TeaNight y = new TeaNight();
        Due.job(y, "set 16=word 17", 5, 10, 0, 0, false);
        Due.job(y, "set 17=word 16", 5, 1, 0, 0, false);
        plan(y, 9, 0, 0, DROPPED, DROPPED);
        plan(y, 10, 0, 11, RUN, RUN);
        // one beyond the first seven is none of these
        TeaNight z = new TeaNight();
        Due.job(z, "set 16=word 40", 1, 10, 0, 0, false);
        for (int i = 1; i < 7; i++) {
            Due.job(z, "", 1, 0, 0, 0, false);
        }
        Due.job(z, "set 40=1", 1, 0, 0, 0, false);
        plan(z, 1, 0, 10, RUN, DROPPED, DROPPED, DROPPED, DROPPED, DROPPED, DROPPED, NONE);
    }

    // "the greatest WORTH together (by hand: as run; short: its own)"
    private static void greatestWorth() {
        TeaNight x = jobs("10 100 0", "6 70 30", "6 50 0 2 60");
        plan(x, 10, 0, 130, DROPPED, RUN, SHORT);
        plan(x, 12, 0, 160, RUN, DROPPED, SHORT);
        plan(x, 10, 30, 170, RUN, HAND, DROPPED);
        plan(x, 12, 30, 230, RUN, HAND, SHORT);
        plan(x, 8, 29, 130, DROPPED, RUN, SHORT);
        TeaNight y = jobs("3 1000 0", "3 1000 0", "3 1000 0", "3 1000 0", "3 1000 0", "3 1000 0", "3 1000 0");
        plan(y, 21, 0, 7000, RUN, RUN, RUN, RUN, RUN, RUN, RUN);
        plan(y, 20, 0, 6000, RUN, RUN, RUN, RUN, RUN, RUN, DROPPED);
        // short may be worth more than whole, and less
        plan(jobs("10 100 0", "10 0 0 1 1000"), 10, 0, 1000, DROPPED, SHORT);
        plan(jobs("10 100 0", "10 1000 0 1 0"), 10, 0, 1000, DROPPED, RUN);
        plan(jobs("10 100 0", "10 0 9 1 1000"), 10, 9, 1000, DROPPED, SHORT);
        plan(jobs("10 100 0", "10 1000 9 1 999"), 10, 9, 1100, RUN, HAND);
        plan(jobs("1 1 0", "1 0 0 1 0", "10 0 0 10 1000"), 10, 0, 1000, DROPPED, DROPPED, SHORT);
    }

    // "of several the fewest MINUTES of the machine"
    private static void fewestOfMachine() {
        TeaNight x = jobs("5 10 8", "4 10 8");
        plan(x, 9, 8, 20, HAND, RUN);
        plan(x, 9, 16, 20, HAND, HAND);
        plan(x, 5, 0, 10, DROPPED, RUN);
        plan(jobs("5 10 0 4 10"), 5, 0, 10, SHORT);
        plan(jobs("5 0 0"), 5, 0, 0, DROPPED);
        plan(jobs("5 0 3 1 0"), 5, 3, 0, DROPPED);
        plan(jobs("9 5 0", "3 3 0", "5 2 0"), 9, 0, 5, DROPPED, RUN, RUN);
        plan(jobs("8 5 0", "3 3 0", "5 2 0"), 8, 0, 5, RUN, DROPPED, DROPPED);
        plan(jobs("7 5 0", "3 3 0", "5 2 0"), 8, 0, 5, RUN, DROPPED, DROPPED);
    }

    // "then of clerks"
    private static void fewestOfClerks() {
        plan(jobs("5 7 9", "5 7 8"), 5, 9, 14, RUN, HAND);
        plan(jobs("5 7 8", "5 7 9"), 5, 9, 14, HAND, RUN);
        plan(jobs("5 7 9", "5 7 8"), 0, 9, 7, DROPPED, HAND);
        plan(jobs("5 7 8", "5 7 8"), 5, 9, 14, RUN, HAND);
        plan(jobs("5 0 8"), 0, 8, 0, DROPPED);
        // fewer of the machine goes ahead of fewer of clerks
        plan(jobs("5 7 9", "6 7 8"), 6, 9, 14, RUN, HAND);
        plan(jobs("5 7 8", "4 7 9"), 6, 9, 14, HAND, RUN);
        plan(jobs("5 7 1", "4 7 9"), 6, 9, 14, HAND, RUN);
        plan(jobs("4 7 1", "5 7 9"), 6, 9, 14, RUN, HAND);
    }

    // "then the first by what the first job has (run, short, by hand, dropped), then the next"
    private static void firstByWhatItHas() {
        plan(jobs("5 7 0", "5 7 0"), 5, 0, 7, RUN, DROPPED);
        plan(jobs("5 7 0 5 7"), 5, 0, 7, RUN);
        plan(jobs("6 7 0 5 7", "5 7 0"), 5, 0, 7, SHORT, DROPPED);
        plan(jobs("6 7 3", "6 7 3"), 0, 3, 7, HAND, DROPPED);
        plan(jobs("5 7 8", "5 7 8"), 5, 8, 14, RUN, HAND);
        plan(jobs("5 7 8 5 7", "5 7 8"), 5, 8, 14, RUN, HAND);
        plan(jobs("6 7 8 5 7", "5 7 8"), 5, 8, 14, SHORT, HAND);
        plan(jobs("5 7 0", "5 7 0", "5 7 0"), 10, 0, 14, RUN, RUN, DROPPED);
        plan(jobs("5 7 0", "6 7 0 5 7", "5 7 0 5 7"), 10, 0, 14, RUN, SHORT, DROPPED);
        plan(jobs("5 7 0", "5 7 0", "5 7 0", "5 7 0", "5 7 0", "5 7 0", "5 7 0"), 5, 0, 7, RUN, DROPPED, DROPPED, DROPPED, DROPPED, DROPPED,
                DROPPED);
    }

    // "the night by clerks alone (all that have HAND MINUTES: together; none, if some has none)"
    private static void byClerksAlone() {
        Due.same("no jobs", new TeaNight().beside(false), 0);
        Due.same("one", jobs("1 0 1").beside(false), 1);
        Due.same("one that has none", jobs("1 0 0").beside(false), NONE);
        Due.same("the last has none", jobs("1 0 480", "1 0 0").beside(false), NONE);
        Due.same("the first has none", jobs("1 0 0", "1 0 480").beside(false), NONE);
        TeaNight x = jobs("1 0 480", "1 0 480", "1 0 480", "1 0 480", "1 0 480", "1 0 480", "1 0 480", "1 0 480", "1 0 480", "1 0 480",
                "1 0 480", "1 0 480");
        Due.same("longer than a night", x.beside(false), 12 * 480);
        x.drop(0);
        x.minutes(5);
        Due.same("whatever their states", x.beside(false), 12 * 480);
        TeaNight y = new TeaNight();
        Due.job(y, "set 16=word 17", 1, 0, 3, 0, false);
        Due.job(y, "set 17=word 16", 1, 0, 4, 0, false);
        Due.same("without order", y.beside(false), 7);
    }

    private static int two(String... minutesAndText) {
        TeaNight x = new TeaNight();
        for (String job : minutesAndText) {
            int at = job.indexOf(' ');
            Due.job(x, job.substring(at + 1), Integer.parseInt(job.substring(0, at)), 0, 0, 0, false);
        }
        return x.beside(true);
    }

    // "jobs in ORDER, each as soon as all on which it leans are done, on the machine that is free first (of two the first)"
    private static void withTwoMachines() {
        Due.same("no jobs", new TeaNight().beside(true), 0);
        Due.same("one", two("60 set 16=1"), 60);
        Due.same("two beside", two("60 set 16=1", "59 set 17=1"), 60);
        Due.same("one behind the other", two("60 set 16=1", "59 set 17=word 16"), 119);
        Due.same("the third on the one that is free first", two("5 set 16=1", "3 set 17=1", "4 set 18=1"), 7);
        Due.same("likewise", two("3 set 16=1", "5 set 17=1", "4 set 18=1"), 7);
        Due.same("in order, not the longest first", two("1 set 16=1", "1 set 17=1", "9 set 18=1"), 10);
        Due.same("as soon as all are done", two("5 set 16=1", "3 set 17=1", "4 set 18=word 16+word 17"), 9);
        // of two that are free at 0 the first; then 1 on the second waits for it until 10, and holds it until 11
        Due.same("what waits holds its machine", two("10 set 16=1", "1 set 17=word 16", "10 set 18=1"), 20);
        // 0 and 1 end at 5; 2 is on the first until 6, so 3 begins at 5 on the second
        Due.same("both free at once", two("5 set 16=1", "5 set 17=1", "1 set 18=1", "5 set 19=1", "2 set 20=1"), 10);
        // the order is 1, 0: 0 leans on 1
        Due.same("by order, not by numbers", two("7 set 16=word 17", "2 set 17=1", "8 set 18=1"), 10);
        Due.same("none without order", two("1 set 16=word 17", "1 set 17=word 16"), NONE);
        Due.same("none without order of all", two("1 set 20=1", "1 set 16=word 17", "1 set 17=word 16"), NONE);
        Due.same("both free when what it leans on is done", two("4 set 16=1", "4 set 17=1", "1 set 18=word 17", "1 set 19=1", "9 set 20=1"), 14);
    }

    // "ROWS: the latest 8 WRITINGS"
    private static void latestEight() {
        TeaNight x = new TeaNight();
        Edge.due("no row", x, Due.ELEMENT, y -> y.tear(0, 1));
        for (int i = 1; i <= 20; i++) {
            x.tell(16 + i, i);
            int rows = Math.min(8, i);
            for (int row = 0; row < 8; row++) {
                int n = row;
                Edge.due("row " + row + " of " + i, x, row < rows ? (Object) (i - rows + 1 + row) : Due.ELEMENT, y -> y.tear(n, 0));
            }
            Edge.due("row 8", x, Due.ELEMENT, y -> y.tear(8, 0));
            Edge.due("row -1", x, Due.ELEMENT, y -> y.tear(-1, 0));
        }
        Edge.due("the least row", x, Due.ELEMENT, y -> y.tear(Integer.MIN_VALUE, 0));
        Edge.due("the greatest row", x, Due.ELEMENT, y -> y.tear(Integer.MAX_VALUE, 0));
        TeaNight z = new TeaNight();
        Due.job(z, "set 16=1;set 17=2;set 18=3;set 19=4;set 20=5;set 21=6;set 22=7;set 23=8;set 24=9;set 25=10", 1);
        z.minutes(1);
        Due.same("of ten by a job the third is the oldest", z.tear(0, 0), 3);
        Due.same("and the tenth the latest", z.tear(7, 0), 10);
    }

    // "the value as it is written down may be TORN (exclusive or): then AS tells it so (the WORD itself stays)"
    private static void torn() {
        for (int mask : new int[] {0, 1, 5, -1, Integer.MIN_VALUE, Integer.MAX_VALUE}) {
            TeaNight x = new TeaNight();
            x.tell(20, 6);
            x.tell(21, 7);
            Due.same("torn by " + mask, x.tear(0, mask), 6 ^ mask);
            Due.same("as", x.as(20, 0), 6 ^ mask);
            Due.same("the other", x.as(21, 0), 7);
            Due.same("the word", x.word(20), 6);
            Due.same("check", x.check(), mask == 0 ? NONE : 0);
            Due.same("led", x.led(20, 0), NONE);
            Due.same("no writing", x.count(2), 2);
            Due.job(x, "set 22=word 20", 1);
            x.minutes(1);
            Due.same("jobs read the word", x.word(22), 6);
            Due.same("torn back", x.tear(0, mask), 6);
            Due.same("check", x.check(), NONE);
        }
        // a row that is older than eight stays torn
        TeaNight y = new TeaNight();
        y.tell(20, 6);
        y.tear(0, 1);
        for (int i = 1; i <= 7; i++) {
            y.tell(30, i);
            Due.same("check", y.check(), 0);
        }
        y.tell(30, 8);
        Due.same("it is no row now", y.check(), NONE);
        Due.same("but torn", y.as(20, 0), 7);
    }

    // "CHECK: the first (from the oldest on) that is not as it was written; none"
    private static void checked() {
        TeaNight x = new TeaNight();
        Due.same("no rows", x.check(), NONE);
        for (int i = 0; i < 8; i++) {
            x.tell(20 + i, i);
            Due.same("none torn", x.check(), NONE);
        }
        for (int row = 7; row >= 0; row--) {
            x.tear(row, 1);
            Due.same("the first", x.check(), row);
        }
        for (int row = 0; row < 8; row++) {
            Due.same("the first", x.check(), row);
            x.tear(row, 1);
        }
        Due.same("none", x.check(), NONE);
        x.tear(7, 2);
        x.tell(20, 5);
        Due.same("one row on", x.check(), 6);
    }

    // "THE IMAGE (one) of all may be kept, and gone back to"; "true; false, and nothing happens, if none was kept"
    private static void oneImage() {
        TeaNight x = new TeaNight();
        Due.no("none kept", x.back());
        x.tell(20, 1);
        Due.no("none kept", x.back());
        Due.same("nothing happens", x.word(20), 1);
        x.image();
        x.tell(20, 2);
        x.image();
        x.tell(20, 3);
        Due.yes("back", x.back());
        Due.same("to the latest", x.word(20), 2);
        Due.same("rings and tellings", x.count(6), 2);
        Due.yes("back again", x.back());
        Due.same("to the same", x.word(20), 2);
        x.tell(20, 4);
        x.tear(2, 1);
        Due.yes("it is still kept", x.back());
        Due.same("as", x.as(20, 0), 2);
        Due.same("writings", x.count(2), 2);
        Due.same("none torn", x.check(), NONE);
        x.tell(20, 9);
        Due.same("a row that was torn ahead of going back", x.check(), NONE);
        Due.same("as", x.as(20, 0), 9);
        eachGoesBack();
        // to an image of a new night
        TeaNight y = new TeaNight();
        y.image();
        Due.job(y, "set 16=1", 1);
        y.minutes(120);
        Due.yes("back", y.back());
        Due.same("no jobs", y.count(1), 0);
        Due.same("minute", y.count(0), 0);
        Due.same("no writings", y.count(2), 0);
        Due.same("no word", y.word(16), 0);
        Due.same("job 0 again", Due.job(y, "set 17=1", 1), 0);
        Due.same("its words", y.words(0, true), 1L << 17);
    }

    // "of all": what shows only in what happens then
    private static void eachGoesBack() {
        // a test behind the image, and the minute at which a lamp fails
        TeaNight x = new TeaNight();
        Due.job(x, "set 17=0", 1);
        x.minutes(1);
        x.lamp(1, 2, 4);
        x.image();
        x.minutes(1);
        Due.same("caught", x.test(1, 1), 2);
        Due.same("doubted", x.doubted(), 1L << 17);
        x.lamp(1, 100, 8);
        Due.yes("back", x.back());
        Due.same("not tested, so not doubted", x.doubted(), 0);
        Due.same("caught in all", x.count(12), 0);
        x.again(0);
        x.minutes(1);
        Due.same("at its minute, with its mask", x.word(17), 4);
        Due.yes("back", x.back());
        x.minutes(1);
        Due.same("the first test", x.test(1, 1), 2);
        Due.same("doubted", x.doubted(), 1L << 17);
        Due.yes("back", x.back());
        Due.same("lamp 1 would fail later", x.test(1, 1), 0);
        x.minutes(1);
        Due.same("caught", x.test(1, 1), 2);
        Due.same("good at its first test", x.doubted(), 0);
        // torn rows
        TeaNight y = new TeaNight();
        y.tell(20, 6);
        y.tell(21, 6);
        y.tear(0, 1);
        y.image();
        y.tear(1, 8);
        y.tear(0, 1);
        Due.yes("back", y.back());
        Due.same("torn ahead of the image", y.as(20, 0), 7);
        Due.same("torn behind it", y.as(21, 0), 6);
        Due.same("check", y.check(), 0);
        runsGoBack();
        paidGoesBack();
    }

    private static void runsGoBack() {
        TeaNight x = new TeaNight();
        Due.job(x, "set 16=1;stop if word 1>0", 20, 0, 5, 4, false);
        Due.job(x, "set 17=1", 1, 0, 3, 0, false);
        x.shorter(0, 10, 0, 2);
        x.way(0, 1);
        x.way(1, 2);
        x.minutes(2);
        x.minutes(5);
        x.again(1);
        x.minutes(0);
        x.image();
        x.minutes(3);
        Due.same("ended short", x.look(0, 0), 3);
        x.tell(1, 1);
        x.again(0);
        x.way(0, 0);
        x.shorter(0, 0, 0, 0);
        x.minutes(20);
        Due.same("failed", x.count(8), 1);
        x.out(60);
        Due.yes("back", x.back());
        Due.same("failed", x.count(8), 0);
        Due.same("failures of the job", x.look(0, 7), 0);
        Due.same("not out", x.count(3), 0);
        Due.same("3 of 10 are left", x.look(0, 1), 3);
        x.out(1);
        Due.same("kept at 4 of 10", x.look(0, 1), 6);
        Due.same("no clerk has begun it again", x.look(1, 2), 0);
        x.minutes(7);
        Due.same("ended short", x.look(0, 0), 3);
        Due.same("with so much", x.word(16), 2);
        Due.same("done by hand", x.look(1, 5), 10);
        x.again(0);
        Due.yes("its short way is back", x.way(0, 1));
    }

    private static void paidGoesBack() {
        TeaNight x = new TeaNight();
        Due.job(x, "set 16=1", 1, 0, 0, 0, true);
        x.worker(10, 3);
        x.minutes(1);
        x.image();
        Due.same("paid", x.wages(), 30);
        Due.yes("back", x.back());
        Due.same("not paid", x.count(10), 0);
        Due.yes("so they may be altered", x.alter(0, 11, 2));
        Due.same("and paid", x.wages(), 33);
        x.image();
        Due.yes("back to when they were paid", x.back());
        Due.same("once", x.wages(), NONE);
        Due.same("hours", x.pay(0, 1), 11);
    }

    // "(but for the TAPE, fault() and THE IMAGE itself)"
    private static void notTheTape() {
        TeaNight x = new TeaNight();
        x.image();
        Due.feed(x, "set 16=? ");
        Due.same("the fault", Edge.answer(x, y -> y.job(1, 1, 1, 1, false)).length(), "IllegalArgumentException".length());
        Due.feed(x, "set 16=1");
        Due.yes("back", x.back());
        Due.same("the fault stays", x.fault(), 7);
        Due.same("the tape stays", x.job(1, 1, 1, 1, false), 0);
        Due.same("its text", x.words(0, true), 1L << 16);
        Due.same("the fault of it", x.fault(), NONE);
        Due.yes("back", x.back());
        Due.same("the fault stays", x.fault(), NONE);
        Due.no("the tape stays used up", x.end(1));
        Due.same("the tape stays used up", x.feed(0, 0, 0, 0, 0), 20);
        x.image();
        Due.yes("the tape is not of the image", x.end(3));
        Due.yes("back", x.back());
        Due.no("it has 3 bytes still", x.end(4));
        Due.yes("it has 3 bytes still", x.end(3));
    }
}
