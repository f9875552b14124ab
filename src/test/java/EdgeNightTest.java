/** The edges of the night itself: the document's ==== 1 (minutes, words, writings) and ==== 3 (states, clerks, out, again). */
public final class EdgeNightTest {
    private static final int TOP = 999999999;
    private static final int NONE = -1;
    private static final int WAITS = 0;
    private static final int RUNS = 1;
    private static final int ENDED = 2;
    private static final int ENDED_SHORT = 3;
    private static final int BY_HAND = 4;
    private static final int DROPPED = 5;
    private static final int FAILED = 6;

    public static void main(String[] args) {
        atFirst();
        theLastMinute();
        writings();
        asOf();
        ringsAreWords();
        beginsAndEnds();
        noMinutes();
        oneAMinute();
        leastPlace();
        whatItLeansOn();
        notByHand();
        clerks();
        machineAheadOfClerks();
        machineOut();
        keptAt();
        runAgain();
        ways();
        drops();
        looks();
        Due.finish();
    }

    // "MINUTE: 0 at first", "(0 both at first)", "WORDS 0 to 63 of the store (0 at first)", "OLD ones: (0 at first)"
    private static void atFirst() {
        TeaNight x = new TeaNight();
        Due.same("minute", x.count(0), 0);
        for (int word = 0; word < 64; word++) {
            Due.same("word", x.word(word), 0);
            Due.same("as", x.as(word, 480), 0);
        }
        StringBuilder less = new StringBuilder("set 16=day;set 17=weather;set 18=0");
        StringBuilder more = new StringBuilder("set 19=0");
        for (int word = 0; word < 64; word++) {
            (word < 32 ? less : more).append("+old").append(word);
        }
        Due.job(x, less.toString(), 1);
        Due.job(x, more.toString(), 1);
        x.minutes(2);
        Due.same("day", x.as(16, 1), 0);
        Due.same("weather", x.as(17, 1), 0);
        Due.same("old", x.as(18, 1), 0);
        Due.same("old", x.as(19, 2), 0);
        Due.same("all are written", x.count(2), 4);
    }

    // "480 at last", "So many MINUTES, as far as MINUTE may go"
    private static void theLastMinute() {
        TeaNight x = new TeaNight();
        Due.job(x, "set 16=1", 60, 0, 0, 0, false);
        Due.job(x, "set 17=1", 1, 0, 480, 0, false);
        x.way(1, 2);
        Due.same("no minute", x.minutes(0), 0);
        Due.same("nothing begins", x.look(0, 0), WAITS);
        for (int i = 1; i <= 3; i++) {
            x.again(0);
            Due.same("120 minutes", x.minutes(120), 120 * i);
        }
        Due.same("119 minutes", x.minutes(119), 479);
        Due.same("a clerk's minutes", x.look(1, 2), 479);
        x.again(0);
        x.out(60);
        Due.same("one minute is left", x.minutes(120), 480);
        Due.same("one minute out", x.count(3), 59);
        Due.same("the clerk is done in the last minute", x.look(1, 0), BY_HAND);
        Due.same("its minute", x.look(1, 5), 480);
        Due.same("as of the last minute", x.as(17, 480), 1);
        Due.same("not ahead of it", x.as(17, 479), 0);
        x.again(1);
        Due.same("no minute is left", x.minutes(120), 480);
        Due.same("it is out as long", x.count(3), 59);
        Due.same("no clerk does anything", x.look(1, 2), 0);
        Due.same("nothing begins", x.count(4), NONE);
        Due.same("one may still tell", x.tell(16, 5), 1);
        Due.same("as of the last minute", x.led(16, 480), NONE);
        Due.yes("a lamp may still fail in it", x.lamp(0, 480, 1));
        TeaNight y = new TeaNight();
        y.minutes(120);
        y.minutes(120);
        y.minutes(120);
        y.minutes(118);
        Due.job(y, "set 16=1", 2);
        Due.job(y, "set 17=1", 1);
        Due.same("one minute ahead of the end", y.minutes(1), 479);
        Due.same("480 and no more", y.minutes(2), 480);
        Due.same("ended in the last", y.look(0, 5), 480);
        Due.same("none behind it", y.look(1, 0), WAITS);
    }

    // "WRITINGS: each time that a WORD is written (rung, told, by a job): the MINUTE, the WORD, its value, the job (NONE)."
    private static void writings() {
        TeaNight x = new TeaNight();
        Due.same("none at first", x.count(2), 0);
        x.ring(3, 3, 1);
        Due.same("rung", x.count(2), 1);
        x.tell(63, 2);
        Due.same("told", x.count(2), 2);
        x.tell(63, 2);
        Due.same("told the same again", x.count(2), 3);
        x.old(5, 1);
        Due.same("old is none", x.count(2), 3);
        Due.job(x, "set 16=0;set 16=0;round 16 by 3;sum 17 from 0 to 0;ask if 1<2", 1);
        x.minutes(1);
        Due.same("four by a job", x.count(2), 7);
        x.shorter(0, 1, 0, 0);
        x.again(0);
        x.way(0, 1);
        x.minutes(1);
        Due.same("two words short", x.count(2), 9);
        x.again(0);
        x.way(0, 2);
        x.minutes(3);
        Due.same("four by hand", x.count(2), 13);
        Due.same("the job", x.led(17, 5), 0);
        Due.same("none", x.led(63, 5), NONE);
    }

    // "AS of a MINUTE: the value of the latest WRITING of that WORD up to it; 0 without one. LED: its job."
    private static void asOf() {
        TeaNight x = new TeaNight();
        x.tell(20, 5);
        Due.job(x, "set 20=6;set 20=7", 2);
        Due.job(x, "set 20=50", 1);
        x.minutes(2);
        x.tell(20, 9);
        x.tell(20, 10);
        x.minutes(1);
        int[] minutes = {Integer.MIN_VALUE, -1, 0, 1, 2, 3, 4, 480, 481, Integer.MAX_VALUE};
        int[] as = {0, 0, 5, 5, 10, 50, 50, 50, 50, 50};
        int[] led = {-2, -2, NONE, NONE, NONE, 1, 1, 1, 1, 1};
        for (int i = 0; i < minutes.length; i++) {
            Due.same("as of " + minutes[i], x.as(20, minutes[i]), as[i]);
            Due.same("led as of " + minutes[i], x.led(20, minutes[i]), led[i]);
            Due.same("without one as of " + minutes[i], x.as(21, minutes[i]), 0);
            Due.same("not written as of " + minutes[i], x.led(21, minutes[i]), -2);
        }
        TeaNight y = new TeaNight();
        Due.job(y, "set 20=1;set 20=2", 1);
        y.minutes(1);
        Due.same("the latest of a minute", y.as(20, 1), 2);
        Due.same("by job 0", y.led(20, 1), 0);
        Due.same("not ahead", y.led(20, 0), -2);
        y.tell(20, 7);
        Due.same("told over in the same minute", y.led(20, 1), NONE);
        Due.same("told over in the same minute", y.as(20, 1), 7);
        y.minutes(120);
        Due.same("that minute still", y.as(20, 1), 7);
        Due.same("each minute behind", y.as(20, 60), 7);
    }

    // "WORD 4 times the shop, and the good (0 to 15), told by job NONE"
    private static void ringsAreWords() {
        TeaNight x = new TeaNight();
        for (int shop = 0; shop < 4; shop++) {
            for (int good = 0; good < 4; good++) {
                Due.same("ring", x.ring(shop, good, 100 + 4 * shop + good), 4 * shop + good + 1);
            }
        }
        for (int word = 0; word < 64; word++) {
            Due.same("word " + word, x.word(word), word < 16 ? 100 + word : 0);
            Due.same("led " + word, x.led(word, 0), word < 16 ? NONE : -2);
        }
        x.ring(0, 0, 0);
        x.ring(3, 3, 99999);
        Due.same("the least", x.word(0), 0);
        Due.same("the greatest", x.word(15), 99999);
        x.tell(16, TOP);
        x.tell(17, -TOP);
        Due.same("the greatest word", x.word(16), TOP);
        Due.same("the least word", x.word(17), -TOP);
    }

    // "it begins (its MINUTES all left)"; "If one runs, it has one MINUTE less left; with none left it ends: its text is done, all in that MINUTE."
    private static void beginsAndEnds() {
        TeaNight x = new TeaNight();
        Due.job(x, "set 16=1", 60);
        x.minutes(1);
        Due.same("runs", x.look(0, 0), RUNS);
        Due.same("one of 60 is done", x.look(0, 1), 59);
        Due.same("the job that runs", x.count(4), 0);
        x.minutes(58);
        Due.same("the last is left", x.look(0, 1), 1);
        Due.same("not done yet", x.count(2), 0);
        Due.same("never done", x.look(0, 5), NONE);
        x.minutes(1);
        Due.same("ended", x.look(0, 0), ENDED);
        Due.same("none left", x.look(0, 1), 0);
        Due.same("none runs", x.count(4), NONE);
        Due.same("done in that minute", x.as(16, 60), 1);
        Due.same("not ahead of it", x.as(16, 59), 0);
        Due.same("the minute", x.look(0, 5), 60);
        TeaNight y = new TeaNight();
        Due.job(y, "set 16=1", 1);
        Due.same("waits", y.look(0, 0), WAITS);
        y.minutes(1);
        Due.same("of 1 minute: it begins and ends in it", y.look(0, 0), ENDED);
        Due.same("the minute", y.look(0, 5), 1);
    }

    // "with 0 MINUTES it ends in the MINUTE in which it begins"
    private static void noMinutes() {
        TeaNight x = new TeaNight();
        Due.job(x, "set 16=1", 9);
        Due.job(x, "set 17=1", 1);
        x.old(16, 40);
        x.shorter(0, 5, 0, 2);
        x.way(0, 1);
        x.shorter(0, 0, 0, 3);
        Due.same("still told to be short", x.look(0, 3), 1);
        x.minutes(1);
        Due.same("ended short", x.look(0, 0), ENDED_SHORT);
        Due.same("in the minute in which it began", x.look(0, 5), 1);
        Due.same("none left", x.look(0, 1), 0);
        Due.same("none runs", x.count(4), NONE);
        Due.same("old of it and so much", x.word(16), 43);
        Due.same("the next begins in the next minute", x.look(1, 0), WAITS);
        x.minutes(1);
        Due.same("the next", x.look(1, 5), 2);
        x.again(0);
        Due.no("the short way is none now", x.way(0, 1));
        Due.same("but the way stays", x.look(0, 3), 1);
        x.minutes(1);
        Due.same("short again", x.look(0, 0), ENDED_SHORT);
    }

    // in a MINUTE one job begins, or goes on, and one ends at most
    private static void oneAMinute() {
        TeaNight x = new TeaNight();
        for (int i = 0; i < 12; i++) {
            Due.job(x, "set " + (16 + i) + "=1", 1);
        }
        for (int minute = 1; minute <= 12; minute++) {
            x.minutes(1);
            Due.same("wait", x.count(5), 12 - minute);
            Due.same("the minute of the latest", x.look(minute - 1, 5), minute);
            Due.same("none runs behind it", x.count(4), NONE);
        }
        x.minutes(1);
        Due.same("none is left", x.count(4), NONE);
        TeaNight y = new TeaNight();
        Due.job(y, "", 2);
        Due.job(y, "", 2);
        y.minutes(2);
        Due.same("the first ended", y.look(0, 0), ENDED);
        Due.same("the next has not begun", y.look(1, 0), WAITS);
        y.minutes(1);
        Due.same("one of its two", y.look(1, 1), 1);
    }

    // "of the least place in ORDER (by numbers, if there is none)"
    private static void leastPlace() {
        TeaNight x = new TeaNight();
        Due.job(x, "set 16=word 17", 1);
        Due.job(x, "set 18=1", 1);
        Due.job(x, "set 17=1", 1);
        // places: 1, 2, 0
        int[] order = {1, 2, 0};
        for (int i = 0; i < 3; i++) {
            x.minutes(1);
            Due.same("place " + i, x.look(order[i], 5), i + 1);
        }
        // all have what they lean on: the place counts, not the number
        x.again(0);
        x.minutes(1);
        x.image();
        x.again(0);
        x.again(2);
        x.minutes(1);
        Due.same("place 1 ahead of place 2", x.look(2, 5), 5);
        x.back();
        x.again(0);
        x.again(1);
        x.minutes(1);
        Due.same("place 0 ahead of place 2", x.look(1, 5), 5);
        TeaNight y = new TeaNight();
        Due.job(y, "set 16=word 17", 1);
        Due.job(y, "set 18=1", 1);
        Due.job(y, "set 17=word 16", 1);
        Due.job(y, "set 19=1", 1);
        Due.same("no order", y.order(0), NONE);
        y.minutes(1);
        Due.same("by numbers: the first that may", y.look(1, 5), 1);
        y.minutes(1);
        Due.same("by numbers: the next that may", y.look(3, 5), 2);
        y.minutes(1);
        Due.same("no more", y.count(5), 2);
        y.way(2, 2);
        y.minutes(3);
        Due.same("by hand", y.look(2, 0), BY_HAND);
        y.again(1);
        y.minutes(1);
        Due.same("0 ahead of 1", y.look(0, 5), 7);
    }

    // "of which each job that it leans on is in STATE 2, 3, 4"
    private static void whatItLeansOn() {
        for (int state = 0; state <= 6; state++) {
            if (state == RUNS) {
                continue;
            }
            TeaNight x = new TeaNight();
            Due.job(x, "set 16=1;stop if word 1>0", 1, 0, 1, 0, false);
            Due.job(x, "set 17=1", 1);
            Due.job(x, "set 18=word 16+word 17", 1);
            bringTo(x, state);
            x.minutes(state == WAITS ? 0 : 5);
            boolean may = state >= ENDED && state <= BY_HAND;
            Due.same("state", x.look(0, 0), state);
            Due.same("what leans on one in state " + state, x.look(2, 0), may ? ENDED : WAITS);
        }
        TeaNight y = new TeaNight();
        Due.job(y, "set 18=word 16+word 17", 1);
        Due.job(y, "set 16=1", 1);
        Due.job(y, "set 17=1", 1);
        y.drop(2);
        y.minutes(9);
        Due.same("one of two is not enough", y.look(0, 0), WAITS);
        y.again(2);
        y.minutes(2);
        Due.same("both", y.look(0, 0), ENDED);
        // one that waits again holds up what leans on it
        y.again(0);
        y.again(1);
        y.way(1, 2);
        y.minutes(2);
        Due.same("not ahead of what waits again", y.look(0, 0), WAITS);
        y.minutes(1);
        Due.same("by hand in that minute, behind the machine", y.look(1, 0), BY_HAND);
        Due.same("it begins in the next", y.look(0, 0), WAITS);
        y.minutes(1);
        Due.same("now", y.look(0, 0), ENDED);
    }

    /** Job 0 of three comes to a state; the others have not begun but for the second. */
    private static void bringTo(TeaNight x, int state) {
        switch (state) {
            case ENDED: x.minutes(1); break;
            case ENDED_SHORT: x.shorter(0, 1, 0, 0); x.way(0, 1); x.minutes(1); break;
            case BY_HAND: x.way(0, 2); x.minutes(1); break;
            case DROPPED: x.drop(0); break;
            case FAILED: x.tell(1, 1); x.minutes(1); break;
            default: break;
        }
    }

    // "and are not to be done by hand"
    private static void notByHand() {
        TeaNight x = new TeaNight();
        Due.job(x, "set 16=1", 1, 0, 9, 0, false);
        Due.job(x, "set 17=1", 1, 0, 9, 0, false);
        x.way(0, 2);
        x.minutes(1);
        Due.same("the machine takes the next", x.look(1, 0), ENDED);
        Due.same("the clerk has the first", x.look(0, 2), 1);
        x.minutes(7);
        Due.same("still waits", x.look(0, 0), WAITS);
        Due.same("none runs", x.count(4), NONE);
        x.minutes(1);
        Due.same("by hand", x.look(0, 0), BY_HAND);
    }

    // "Clerks: the job of the least number that is told to be done by hand, and waits, has one HAND MINUTE done each MINUTE, whatever it leans on"
    private static void clerks() {
        TeaNight x = new TeaNight();
        Due.job(x, "set 16=word 17+1", 5, 0, 3, 0, false);
        Due.job(x, "set 17=word 16+1", 5, 0, 2, 0, false);
        Due.job(x, "set 18=1", 5, 0, 1, 0, false);
        x.way(1, 2);
        x.way(2, 2);
        x.minutes(1);
        Due.same("the least that is told so", x.look(1, 2), 1);
        Due.same("not the next", x.look(2, 2), 0);
        Due.same("not one that is not told so", x.look(0, 2), 0);
        x.way(0, 2);
        x.minutes(1);
        Due.same("now the least", x.look(0, 2), 1);
        Due.same("the other stays where it was", x.look(1, 2), 1);
        x.drop(0);
        x.minutes(1);
        Due.same("with all done its text is done", x.look(1, 0), BY_HAND);
        Due.same("whatever it leans on", x.word(17), 1);
        Due.same("its minute", x.look(1, 5), 3);
        Due.same("its minutes stay", x.look(1, 2), 2);
        Due.same("of the dropped one too", x.look(0, 2), 1);
        x.again(0);
        Due.same("until it is run again", x.look(0, 2), 0);
        x.minutes(2);
        Due.same("all of its minutes again", x.look(0, 0), WAITS);
        Due.same("one a minute", x.look(2, 2), 0);
        x.minutes(1);
        Due.same("done", x.word(16), 2);
        x.minutes(1);
        Due.same("the last of one minute", x.look(2, 0), BY_HAND);
        x.minutes(1);
        Due.same("none is left", x.look(2, 2), 1);
        TeaNight y = new TeaNight();
        Due.job(y, "set 16=1;stop if 1<2;set 17=1", 5, 0, 1, 0, false);
        y.way(0, 2);
        y.minutes(1);
        Due.same("failed by hand", y.look(0, 0), FAILED);
        Due.same("its hand minutes stay", y.look(0, 2), 1);
        Due.same("what was ahead stays", y.led(16, 1), 0);
        Due.same("not what is behind", y.led(17, 1), -2);
        y.again(0);
        Due.same("the way stays", y.look(0, 3), 2);
        y.minutes(1);
        Due.same("failed twice", y.look(0, 7), 2);
    }

    // in a MINUTE the machine comes first, then the clerks
    private static void machineAheadOfClerks() {
        TeaNight x = new TeaNight();
        Due.job(x, "set 16=word 16+1;set 20=word 16", 1, 0, 1, 0, false);
        Due.job(x, "set 16=10*word 16", 1, 0, 1, 0, false);
        x.tell(16, 5);
        x.way(0, 2);
        x.minutes(1);
        // job 1 leans on none that it cannot have: 16 is read and written by both, so each leans on the other
        Due.same("the clerk alone", x.word(16), 6);
        x.minutes(1);
        Due.same("then the machine", x.word(16), 60);
        x.again(0);
        x.again(1);
        x.way(0, 0);
        x.way(1, 2);
        x.minutes(1);
        Due.same("by hand first, as 0 leans on 1", x.word(16), 600);
        x.again(1);
        x.minutes(1);
        Due.same("0 waits for 1", x.look(0, 0), WAITS);
        TeaNight y = new TeaNight();
        Due.job(y, "set 20=1", 1, 0, 1, 0, false);
        Due.job(y, "set 20=2", 1, 0, 1, 0, false);
        y.way(0, 2);
        y.minutes(1);
        Due.same("the clerk's is the latest", y.word(20), 1);
        Due.same("led by it", y.led(20, 1), 0);
        Due.same("two writings", y.count(2), 2);
    }

    // "if the machine is out: it is so for one MINUTE less. Else, .."; "OUT: the machine is out for so many MINUTES more (1 to 60)"
    private static void machineOut() {
        TeaNight x = new TeaNight();
        Due.job(x, "set 16=1", 3);
        Due.job(x, "set 17=1", 1, 0, 2, 0, false);
        x.way(1, 2);
        Due.same("out", x.out(1), 1);
        x.minutes(1);
        Due.same("in again, but only from the next minute on", x.look(0, 0), WAITS);
        Due.same("no minute out", x.count(3), 0);
        Due.same("clerks go on", x.look(1, 2), 1);
        x.minutes(1);
        Due.same("it begins", x.look(0, 1), 2);
        Due.same("out", x.out(60), 60);
        Due.same("so many more", x.out(60), 120);
        Due.same("it is back where it began", x.look(0, 1), 3);
        Due.same("it runs all the same", x.look(0, 0), RUNS);
        Due.same("the one that runs", x.count(4), 0);
        x.minutes(120);
        Due.same("no minute less is left", x.look(0, 1), 3);
        Due.same("no minute out", x.count(3), 0);
        x.minutes(2);
        Due.same("two less", x.look(0, 1), 1);
        x.minutes(1);
        Due.same("ended", x.look(0, 5), 125);
        TeaNight y = new TeaNight();
        for (int i = 1; i <= 8; i++) {
            Due.same("out", y.out(60), 60 * i);
        }
        Due.same("480 minutes out", y.count(3), 480);
        Edge.due("not above 480", y, Due.STATE, z -> z.out(1));
        Edge.due("not above 480", y, Due.STATE, z -> z.out(60));
        y.minutes(1);
        Due.same("one less", y.count(3), 479);
        Edge.due("not above 480", y, Due.STATE, z -> z.out(2));
        Due.same("480", y.out(1), 480);
    }

    // "with a POINT: so much was done of it as the greatest multiple of POINT that is not above what was; without one nothing"
    private static void keptAt() {
        int[][] all = {{10, 0, 9, 0}, {10, 1, 9, 9}, {10, 1, 1, 1}, {10, 3, 2, 0}, {10, 3, 3, 3}, {10, 3, 4, 3}, {10, 3, 5, 3}, {10, 3, 6, 6},
            {10, 3, 9, 9}, {10, 9, 8, 0}, {10, 9, 9, 9}, {10, 10, 9, 0}, {10, 60, 9, 0}, {60, 60, 59, 0}, {60, 59, 59, 59}, {60, 20, 39, 20}};
        for (int[] p : all) {
            TeaNight x = new TeaNight();
            Due.job(x, "set 16=1", p[0], 0, 0, p[1], false);
            x.minutes(p[2]);
            Due.same("left of " + p[0], x.look(0, 1), p[0] - p[2]);
            x.out(1);
            Due.same("of " + p[0] + " by " + p[1] + " at " + p[2], x.look(0, 1), p[0] - p[3]);
            x.out(1);
            Due.same("not further back", x.look(0, 1), p[0] - p[3]);
            x.minutes(2 + p[0] - p[3]);
            Due.same("its end", x.look(0, 5), p[2] + 2 + p[0] - p[3]);
        }
        // "(it goes by the MINUTES with which it began, whatever shorter() tells meanwhile)"
        TeaNight x = new TeaNight();
        Due.job(x, "set 16=1", 20, 0, 0, 4, false);
        x.shorter(0, 10, 0, 1);
        x.way(0, 1);
        x.minutes(7);
        Due.same("3 of 10 are left", x.look(0, 1), 3);
        x.shorter(0, 2, 0, 5);
        Due.same("still 3", x.look(0, 1), 3);
        x.out(1);
        Due.same("back at 4 of 10", x.look(0, 1), 6);
        x.shorter(0, 0, 0, 6);
        x.minutes(6);
        Due.same("1 is left", x.look(0, 1), 1);
        x.minutes(1);
        Due.same("ended short", x.look(0, 0), ENDED_SHORT);
        Due.same("with what is told now", x.word(16), 6);
        TeaNight y = new TeaNight();
        Due.job(y, "set 16=1", 20, 0, 0, 4, false);
        y.minutes(7);
        y.shorter(0, 5, 0, 1);
        y.out(1);
        Due.same("back at 4 of 20", y.look(0, 1), 16);
        // the machine out while none runs puts none back
        TeaNight z = new TeaNight();
        Due.job(z, "set 16=1", 2);
        z.minutes(2);
        z.out(1);
        Due.same("none left of one that ended", z.look(0, 1), 0);
        Due.same("ended", z.look(0, 0), ENDED);
    }

    // "RUN AGAIN: one in STATE 2 to 6 waits again."
    private static void runAgain() {
        for (int state = 0; state <= 6; state++) {
            TeaNight x = new TeaNight();
            Due.job(x, "set 16=word 16+1;stop if word 1>0", state == RUNS ? 2 : 1, 0, 1, 0, false);
            bringTo(x, state);
            x.minutes(state == RUNS ? 1 : 0);
            int minute = x.count(0);
            Due.same("state", x.look(0, 0), state);
            Due.same("again in state " + state, x.again(0) ? 1 : 0, state >= ENDED ? 1 : 0);
            Due.same("state then", x.look(0, 0), state == RUNS ? RUNS : WAITS);
            Due.no("not twice", x.again(0));
            Due.same("jobs that wait", x.count(5), state == RUNS ? 0 : 1);
            boolean done = state >= ENDED && state != DROPPED;
            Due.same("done last stays", x.look(0, 5), done ? minute : NONE);
            Due.same("how often stays", x.look(0, 6), done ? 1 : 0);
            Due.same("how often it failed stays", x.look(0, 7), state == FAILED ? 1 : 0);
            x.tell(1, 0);
            x.minutes(1);
            Due.same("done again", x.look(0, 6), done ? 2 : 1);
            Due.same("its way", x.look(0, 3), state == ENDED_SHORT ? 1 : state == BY_HAND ? 2 : 0);
        }
    }

    // "A job that waits, and of which no clerk has done anything": in each state, of each way
    private static void ways() {
        for (int state = 0; state <= 6; state++) {
            TeaNight x = new TeaNight();
            Due.job(x, "set 16=1;stop if word 1>0", state == RUNS ? 2 : 1, 0, 2, 0, false);
            x.shorter(0, 1, 0, 0);
            if (state == BY_HAND) {
                x.way(0, 2);
                x.minutes(1);
                for (int how = 0; how < 3; how++) {
                    Due.no("a clerk has done something", x.way(0, how));
                }
                x.minutes(1);
            } else {
                bringTo(x, state);
                x.minutes(state == RUNS ? 1 : 0);
            }
            int way = x.look(0, 3);
            Due.same("state", x.look(0, 0), state);
            for (int how = 0; how < 3; how++) {
                Due.same("way " + how + " in state " + state, x.way(0, how) ? 1 : 0, state == WAITS ? 1 : 0);
                Due.same("the way then", x.look(0, 3), state == WAITS ? how : way);
            }
            x.again(0);
            Due.same("it stays when it is run again", x.look(0, 3), state == WAITS ? 2 : way);
            Due.same("and may be told again", x.way(0, 0) ? 1 : 0, state == RUNS ? 0 : 1);
        }
        TeaNight y = new TeaNight();
        Due.job(y, "set 16=1", 5, 0, 0, 0, false);
        Due.same("whole at first", y.look(0, 3), 0);
        Due.no("no short way", y.way(0, 1));
        Due.no("no hand minutes", y.way(0, 2));
        Due.yes("whole", y.way(0, 0));
        y.shorter(0, 5, 0, 0);
        Due.yes("now short", y.way(0, 1));
        Due.no("not by hand", y.way(0, 2));
        Due.same("the way", y.look(0, 3), 1);
    }

    // "A job that waits is dropped: true; false, and nothing happens, if it does not."
    private static void drops() {
        for (int state = 0; state <= 6; state++) {
            TeaNight x = new TeaNight();
            Due.job(x, "set 16=1;stop if word 1>0", state == RUNS ? 2 : 1, 0, 1, 0, false);
            bringTo(x, state);
            x.minutes(state == RUNS ? 1 : 0);
            Due.same("drop in state " + state, x.drop(0) ? 1 : 0, state == WAITS ? 1 : 0);
            Due.same("state then", x.look(0, 0), state == WAITS ? DROPPED : state);
            x.minutes(5);
            Due.same("a dropped one is not run", x.look(0, 0), state == WAITS ? DROPPED : state == RUNS ? ENDED : state);
        }
    }

    // look: each what at its edges
    private static void looks() {
        TeaNight x = new TeaNight();
        Due.job(x, "set 16=1;stop if word 1>0;ask if 1<2", 2, 0, 2, 0, false);
        see(x, 0, 0, 0, 0, 3, NONE, 0, 0, 0, 0);
        x.minutes(1);
        see(x, RUNS, 1, 0, 0, 3, NONE, 0, 0, 0, 0);
        x.minutes(1);
        see(x, ENDED, 0, 0, 0, 3, 2, 1, 0, 1, 0);
        x.again(0);
        see(x, WAITS, 0, 0, 0, 3, 2, 1, 0, 1, 0);
        x.tell(1, 1);
        x.minutes(2);
        see(x, FAILED, 0, 0, 0, 3, 4, 2, 1, 1, 0);
        x.again(0);
        x.way(0, 2);
        x.minutes(1);
        see(x, WAITS, 0, 1, 2, 3, 4, 2, 1, 1, 0);
        x.drop(0);
        see(x, DROPPED, 0, 1, 2, 3, 4, 2, 1, 1, 0);
        x.again(0);
        see(x, WAITS, 0, 0, 2, 3, 4, 2, 1, 1, 0);
        x.tell(1, 0);
        x.minutes(2);
        see(x, BY_HAND, 0, 2, 2, 3, 7, 3, 1, 2, 0);
        x.shorter(0, 3, 0, 0);
        x.again(0);
        x.way(0, 1);
        x.minutes(1);
        see(x, RUNS, 2, 0, 1, 3, 7, 3, 1, 2, 0);
        x.minutes(2);
        see(x, ENDED_SHORT, 0, 0, 1, 3, 10, 4, 1, 2, 0);
    }

    private static void see(TeaNight x, int... want) {
        for (int what = 0; what < 10; what++) {
            Due.same("look " + what + " in minute " + x.count(0), x.look(0, what), want[what]);
        }
    }
}
