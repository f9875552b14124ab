/** Promises 18 to 23: ways, drops, running again, the machine out, minutes, looks. */
public final class RunTest {
    public static void main(String[] args) {
        ways();
        drops();
        out();
        points();
        clerks();
        clock();
        looks();
        Due.finish();
    }

    private static void ways() {
        TeaNight x = new TeaNight();
        Due.job(x, "set 20=1", 3, 1, 0, 0, false);
        Due.job(x, "set 21=1", 3, 1, 2, 0, false);
        Due.thrown("way", Due.INDEX, () -> x.way(2, 3));
        Due.thrown("way", Due.INDEX, () -> x.way(-1, 0));
        Due.thrown("way", Due.ARGUMENT, () -> x.way(0, 3));
        Due.thrown("way", Due.ARGUMENT, () -> x.way(0, -1));
        Due.yes("whole", x.way(0, 0));
        Due.no("short", x.way(0, 1));
        Due.no("by hand", x.way(0, 2));
        Due.yes("by hand", x.way(1, 2));
        x.shorter(1, 1, 1, 1);
        Due.yes("short", x.way(1, 1));
        Due.same("way", x.look(1, 3), 1);
        Due.yes("by hand", x.way(1, 2));
        x.minutes(1);
        Due.no("one that runs", x.way(0, 0));
        Due.no("one that a clerk has begun", x.way(1, 2));
        Due.no("one that a clerk has begun", x.way(1, 0));
        Due.same("way", x.look(1, 3), 2);
        x.minutes(1);
        Due.same("by hand", x.look(1, 0), 4);
        Due.no("one that is done", x.way(1, 0));
        x.again(1);
        Due.same("the way stays", x.look(1, 3), 2);
        Due.same("what the clerk did is gone", x.look(1, 2), 0);
        Due.yes("whole", x.way(1, 0));
    }

    private static void drops() {
        TeaNight x = new TeaNight();
        Due.job(x, "set 20=1", 2);
        Due.job(x, "set 21=word 20", 2);
        Due.thrown("drop", Due.INDEX, () -> x.drop(2));
        Due.thrown("drop", Due.INDEX, () -> x.drop(-1));
        Due.thrown("again", Due.INDEX, () -> x.again(2));
        Due.thrown("again", Due.INDEX, () -> x.again(-1));
        Due.no("again of one that waits", x.again(0));
        Due.yes("drop", x.drop(0));
        Due.no("drop", x.drop(0));
        Due.same("state", x.look(0, 0), 5);
        Due.same("jobs that wait", x.count(5), 1);
        x.minutes(5);
        Due.same("what leans on it waits", x.look(1, 0), 0);
        Due.yes("again", x.again(0));
        x.minutes(1);
        Due.no("drop of one that runs", x.drop(0));
        Due.no("again of one that runs", x.again(0));
        x.minutes(3);
        Due.same("both are done", x.look(1, 0), 2);
        Due.no("drop of one that ended", x.drop(1));
        Due.yes("again", x.again(0));
        x.way(0, 2);
        x.minutes(1);
        Due.yes("drop of one that a clerk has begun", x.drop(0));
        Due.same("hand minutes stay", x.look(0, 2), 1);
        Due.yes("again", x.again(0));
        Due.same("hand minutes are gone", x.look(0, 2), 0);
        Due.same("done last", x.look(0, 5), 7);
        Due.same("done", x.look(0, 6), 1);
    }

    private static void out() {
        TeaNight x = new TeaNight();
        Due.job(x, "set 20=1", 5, 0, 2, 0, false);
        Due.thrown("out", Due.ARGUMENT, () -> x.out(0));
        Due.thrown("out", Due.ARGUMENT, () -> x.out(61));
        Due.same("out", x.out(1), 1);
        Due.same("out", x.out(2), 3);
        x.minutes(3);
        Due.same("none runs", x.count(4), -1);
        Due.same("out", x.count(3), 0);
        x.minutes(4);
        Due.same("left", x.look(0, 1), 1);
        x.out(1);
        Due.same("all to do again", x.look(0, 1), 5);
        Due.same("it still runs", x.look(0, 0), 1);
        x.minutes(5);
        Due.same("left", x.look(0, 1), 1);
        x.minutes(1);
        Due.same("ended", x.look(0, 0), 2);
        for (int i = 1; i <= 8; i++) {
            Due.same("out", x.out(60), 60 * i);
        }
        Due.thrown("out", Due.STATE, () -> x.out(1));
        Due.thrown("out", Due.ARGUMENT, () -> x.out(61));
        x.minutes(1);
        Due.thrown("out", Due.STATE, () -> x.out(2));
        Due.same("out", x.out(1), 480);
        Due.same("out", x.count(3), 480);
    }

    private static void points() {
        TeaNight x = new TeaNight();
        Due.job(x, "set 20=1", 10, 0, 0, 3, false);
        x.shorter(0, 8, 0, 0);
        x.minutes(8);
        Due.same("left", x.look(0, 1), 2);
        x.out(1);
        Due.same("kept at 6", x.look(0, 1), 4);
        x.out(1);
        Due.same("kept at 6", x.look(0, 1), 4);
        x.minutes(3);
        Due.same("left", x.look(0, 1), 3);
        x.out(1);
        Due.same("kept at 6", x.look(0, 1), 4);
        x.minutes(5);
        Due.same("ended", x.look(0, 0), 2);
        x.again(0);
        x.way(0, 1);
        x.minutes(7);
        Due.same("left of the short way", x.look(0, 1), 1);
        x.shorter(0, 60, 0, 7);
        x.out(1);
        Due.same("by the minutes with which it began", x.look(0, 1), 2);
        x.minutes(3);
        Due.same("ended short", x.look(0, 0), 3);
        Due.same("with the number of now", x.word(20), 7);
    }

    private static void clerks() {
        TeaNight x = new TeaNight();
        Due.job(x, "set 20=word 21+1", 2, 0, 3, 0, false);
        Due.job(x, "set 21=10;ask if 1<2", 2, 0, 2, 0, false);
        Due.job(x, "set 22=word 20", 1, 0, 1, 0, false);
        x.way(1, 2);
        x.minutes(1);
        Due.same("a clerk's minute", x.look(1, 2), 1);
        Due.same("it waits", x.look(1, 0), 0);
        x.way(0, 2);
        x.out(5);
        x.minutes(3);
        Due.same("the least number first", x.look(0, 0), 4);
        Due.same("whatever it leans on", x.word(20), 1);
        Due.same("the other waits", x.look(1, 2), 1);
        Due.same("hand minutes stay", x.look(0, 2), 3);
        x.minutes(1);
        Due.same("by hand", x.look(1, 0), 4);
        Due.same("asked", x.look(1, 8), 1);
        Due.same("done at", x.look(1, 5), 5);
        x.minutes(1);
        Due.same("the machine is out", x.look(2, 0), 0);
        x.minutes(1);
        Due.same("the machine runs", x.look(2, 0), 2);
        // both in one minute: the machine's first
        TeaNight y = new TeaNight();
        Due.job(y, "set 20=5", 2, 0, 0, 0, false);
        Due.job(y, "set 21=word 20", 2, 0, 2, 0, false);
        y.way(1, 2);
        y.minutes(2);
        Due.same("the clerk reads what the machine wrote", y.word(21), 5);
        Due.job(y, "stop if 1<2", 2, 0, 1, 0, false);
        y.way(2, 2);
        y.minutes(1);
        Due.same("failed by hand", y.look(2, 0), 6);
    }

    private static void clock() {
        TeaNight x = new TeaNight();
        Due.thrown("minutes", Due.ARGUMENT, () -> x.minutes(-1));
        Due.thrown("minutes", Due.ARGUMENT, () -> x.minutes(121));
        Due.same("none", x.minutes(0), 0);
        for (int i = 1; i <= 3; i++) {
            Due.same("minutes", x.minutes(120), 120 * i);
        }
        Due.same("minutes", x.minutes(119), 479);
        Due.job(x, "set 20=1", 3);
        Due.same("the night ends", x.minutes(120), 480);
        Due.same("left", x.look(0, 1), 2);
        Due.same("the night is over", x.minutes(120), 480);
        Due.same("left", x.look(0, 1), 2);
        // in order, not by numbers
        TeaNight y = new TeaNight();
        Due.job(y, "set 20=word 21", 1);
        Due.job(y, "set 21=1", 2);
        Due.job(y, "set 22=1", 1);
        y.minutes(1);
        Due.same("runs", y.count(4), 1);
        y.minutes(2);
        Due.same("place 1", y.look(0, 0), 2);
        Due.same("place 2 waits", y.look(2, 0), 0);
        y.minutes(1);
        Due.same("place 2", y.look(2, 0), 2);
    }

    private static void looks() {
        TeaNight x = new TeaNight();
        Due.job(x, "set 20=word 1;stop if word 1>0", 2);
        int[] first = {0, 0, 0, 0, 2, -1, 0, 0, 0, 0};
        for (int what = 0; what < 10; what++) {
            Due.same("look " + what, x.look(0, what), first[what]);
        }
        Due.thrown("look", Due.ELEMENT, () -> x.look(0, 10));
        Due.thrown("look", Due.ELEMENT, () -> x.look(0, -1));
        Due.thrown("look", Due.INDEX, () -> x.look(1, 10));
        Due.thrown("look", Due.INDEX, () -> x.look(-1, 0));
        x.tell(1, 1);
        x.minutes(4);
        int[] then = {6, 0, 0, 0, 2, 2, 1, 1, 0, 0};
        for (int what = 0; what < 10; what++) {
            Due.same("look " + what, x.look(0, what), then[what]);
        }
        Due.job(x, "set 21=word 20", 1);
        x.minutes(1);
        Due.same("leans on one that failed", x.look(1, 0), 0);
        x.again(0);
        x.tell(1, 0);
        x.minutes(2);
        int[] last = {2, 0, 0, 0, 2, 7, 2, 1, 0, 0};
        for (int what = 0; what < 10; what++) {
            Due.same("look " + what, x.look(0, what), last[what]);
        }
    }
}
