/** Promises 39 to 41: plans for lost time, the night by clerks or with a second machine. */
public final class PlanTest {
    public static void main(String[] args) {
        wrong();
        choices();
        ties();
        leaning();
        seven();
        beside();
        Due.finish();
    }

    private static void wrong() {
        TeaNight x = new TeaNight();
        Due.same("nothing waits", x.plan(1000, 1000), 0);
        Due.job(x, "", 1);
        int[][] wrong = {{-1, 0}, {1001, 0}, {0, -1}, {0, 1001}};
        for (int[] w : wrong) {
            Due.thrown("plan", Due.ARGUMENT, () -> x.plan(w[0], w[1]));
            Due.thrown("which", Due.ARGUMENT, () -> x.which(w[0], w[1], 0));
            Due.thrown("which", Due.INDEX, () -> x.which(w[0], w[1], 1));
        }
        Due.thrown("which", Due.INDEX, () -> x.which(0, 0, -1));
        Due.same("plan", x.plan(0, 1000), 1);
        Due.same("by hand", x.which(0, 1000, 0), 2);
        Due.same("it waits", x.look(0, 0), 0);
        Due.same("its way", x.look(0, 3), 0);
        x.minutes(1);
        Due.same("not one that ended", x.which(1, 1, 0), -1);
        Due.same("plan", x.plan(1, 1), 0);
    }

    private static void choices() {
        TeaNight x = new TeaNight();
        Due.job(x, "set 20=1", 10, 100, 0, 0, false);
        Due.job(x, "set 21=1", 6, 70, 30, 0, false);
        Due.job(x, "set 22=1", 6, 50, 0, 0, false);
        x.shorter(2, 2, 60, 0);
        Due.same("one", x.plan(10, 0), 130);
        Due.same("dropped", x.which(10, 0, 0), 3);
        Due.same("run", x.which(10, 0, 1), 0);
        Due.same("short is worth more", x.which(10, 0, 2), 1);
        Due.same("two", x.plan(12, 0), 160);
        Due.same("clerks", x.plan(10, 30), 170);
        Due.same("run", x.which(10, 30, 0), 0);
        Due.same("by hand", x.which(10, 30, 1), 2);
        Due.same("dropped", x.which(10, 30, 2), 3);
        Due.same("clerks", x.plan(10, 29), 130);
        Due.same("all", x.plan(12, 30), 230);
        x.shorter(2, 0, 60, 0);
        Due.same("no short way", x.plan(2, 0), 0);
        x.way(1, 2);
        x.minutes(1);
        Due.same("one runs, and what a clerk did does not count", x.plan(0, 29), 0);
        Due.same("not one that runs", x.which(0, 30, 0), -1);
        Due.same("by hand", x.which(0, 30, 1), 2);
        Due.same("plan", x.plan(0, 30), 70);
    }

    private static void ties() {
        TeaNight x = new TeaNight();
        Due.job(x, "set 20=1", 5, 10, 5, 0, false);
        Due.job(x, "set 21=1", 5, 10, 5, 0, false);
        Due.same("plan", x.plan(5, 5), 20);
        Due.same("the first by the machine", x.which(5, 5, 0), 0);
        Due.same("the next by hand", x.which(5, 5, 1), 2);
        Due.same("plan", x.plan(10, 10), 20);
        Due.same("the fewest minutes of the machine", x.which(10, 10, 0), 2);
        Due.same("plan", x.plan(5, 0), 10);
        Due.same("the first runs", x.which(5, 0, 0), 0);
        Due.same("the next not", x.which(5, 0, 1), 3);
        TeaNight y = new TeaNight();
        Due.job(y, "set 20=1", 5, 0, 5, 0, false);
        Due.job(y, "set 21=1", 5, 7, 9, 0, false);
        Due.job(y, "set 22=1", 5, 7, 8, 0, false);
        Due.same("plan", y.plan(5, 9), 14);
        Due.same("worth nothing: no minutes", y.which(5, 9, 0), 3);
        Due.same("the fewest of clerks", y.which(5, 9, 1), 0);
        Due.same("the fewest of clerks", y.which(5, 9, 2), 2);
        TeaNight z = new TeaNight();
        Due.job(z, "set 20=1", 5, 10, 0, 0, false);
        z.shorter(0, 5, 10, 0);
        z.plan(5, 0);
        Due.same("run ahead of short", z.which(5, 0, 0), 0);
    }

    private static void leaning() {
        TeaNight x = new TeaNight();
        Due.job(x, "set 20=word 21", 5, 100, 0, 0, false);
        Due.job(x, "set 21=1", 5, 1, 0, 0, false);
        Due.job(x, "set 22=1", 5, 50, 0, 0, false);
        Due.same("none without what it leans on", x.plan(5, 0), 50);
        Due.same("dropped", x.which(5, 0, 0), 3);
        Due.same("both", x.plan(10, 0), 101);
        Due.same("dropped", x.which(10, 0, 2), 3);
        x.drop(1);
        Due.same("that does not wait", x.plan(5, 0), 100);
        Due.same("not one of those", x.which(5, 0, 1), -1);
    }

    private static void seven() {
        TeaNight x = new TeaNight();
        for (int i = 0; i < 9; i++) {
            Due.job(x, "set " + (20 + i) + "=1", 60, 1 << i, 480, 0, false);
        }
        Due.same("the first seven", x.plan(1000, 1000), 127);
        Due.same("not one of those", x.which(1000, 1000, 7), -1);
        x.drop(0);
        Due.same("the first seven that wait", x.plan(1000, 1000), 254);
        Due.same("not one of those", x.which(1000, 1000, 0), -1);
        Due.same("by hand", x.which(1000, 960, 7), 2);
        Due.same("the last not", x.which(1000, 1000, 8), -1);
        Due.same("of the machine alone", x.plan(119, 0), 128);
    }

    private static void beside() {
        TeaNight x = new TeaNight();
        Due.job(x, "set 20=1", 5, 0, 7, 0, false);
        Due.job(x, "set 21=1", 3, 0, 8, 0, false);
        Due.job(x, "set 22=1", 4, 0, 9, 0, false);
        Due.same("clerks", x.beside(false), 24);
        Due.same("5, and 3 and 4", x.beside(true), 7);
        Due.job(x, "set 23=word 20", 1, 0, 1, 0, false);
        Due.same("1 behind the 5", x.beside(true), 7);
        Due.job(x, "set 24=word 22+word 21", 2, 0, 1, 0, false);
        Due.same("2 behind the 7", x.beside(true), 9);
        x.minutes(5);
        x.drop(1);
        Due.same("of all jobs, whatever they are", x.beside(true), 9);
        Due.same("of all jobs, whatever they are", x.beside(false), 26);
        Due.job(x, "set 25=word 24", 2, 0, 0, 0, false);
        Due.same("one has no hand minutes", x.beside(false), -1);
        Due.same("11", x.beside(true), 11);
        // of two that are free the first, and one that waits for what it leans on holds its machine
        TeaNight y = new TeaNight();
        Due.job(y, "set 20=1", 10, 0, 1, 0, false);
        Due.job(y, "set 21=word 20", 1, 0, 1, 0, false);
        Due.job(y, "set 22=1", 10, 0, 1, 0, false);
        Due.same("10, then 11 on the second, then 20 on the first", y.beside(true), 20);
    }
}
