/** The edges of lamps, tests and doubt: the document's ==== 4, and what is beyond doubt. */
public final class EdgeDoubtTest {
    private static final int TOP = 999999999;
    private static final int NONE = -1;

    public static void main(String[] args) {
        moduloSixteen();
        atAMinute();
        masks();
        whateverItsBounds();
        onTheMachine();
        untilMended();
        byNow();
        fromOneToAnother();
        caughtInAll();
        theFirstTestBehind();
        notByHandNotTold();
        byWhatItReads();
        aheadOfAllItWrote();
        doneItsText();
        wordsAndJobs();
        beyondDoubt();
        Due.finish();
    }

    private static void end(TeaNight x) {
        x.minutes(1);
    }

    // "LAMPS 0 to 15: that of a WORD is its number modulo 16."
    private static void moduloSixteen() {
        for (int lamp = 0; lamp < 16; lamp++) {
            for (int first = 16; first < 64; first += 16) {
                TeaNight x = new TeaNight();
                int word = first + lamp;
                int other = 16 + (word + 1) % 48;
                Due.job(x, "set " + word + "=0;set " + other + "=0", 1);
                Due.yes("lamp", x.lamp(lamp, 1, 7));
                end(x);
                Due.same("word " + word + " of lamp " + lamp, x.word(word), 7);
                Due.same("word " + other + " of another", x.word(other), 0);
                Due.same("caught", x.test(lamp, lamp), 1 << lamp);
                Due.same("doubted", x.doubted(), 1L << word);
            }
        }
    }

    // "A LAMP fails at a MINUTE (this one or later)": "in that MINUTE or later"
    private static void atAMinute() {
        TeaNight x = new TeaNight();
        x.minutes(10);
        Edge.due("not ahead of this minute", x, Due.ARGUMENT, y -> y.lamp(0, 9, 1));
        Edge.due("not behind the last", x, Due.ARGUMENT, y -> y.lamp(0, 481, 1));
        Due.yes("this one", x.lamp(0, 10, 1));
        Due.yes("the last", x.lamp(1, 480, 1));
        Due.yes("the next", x.lamp(2, 11, 1));
        Due.same("failed by now", x.test(0, 15), 1);
        TeaNight y = new TeaNight();
        for (int i = 0; i < 4; i++) {
            Due.job(y, "set " + (17 + 16 * (i % 3)) + "=" + i + ";set 20=1", 1);
        }
        y.lamp(1, 3, 8);
        y.minutes(4);
        Due.same("minute 1", y.as(17, 1), 0);
        Due.same("minute 2", y.as(33, 2), 1);
        Due.same("minute 3: in that minute", y.as(49, 3), 2 ^ 8);
        Due.same("minute 4: later", y.as(17, 4), 3 ^ 8);
        TeaNight z = new TeaNight();
        z.lamp(1, 0, 8);
        Due.job(z, "set 17=1", 1);
        end(z);
        Due.same("from the first minute on", z.word(17), 9);
    }

    // "with a MASK (not 0)": "is written with those bits turned (exclusive or)"
    private static void masks() {
        int[] masks = {1, 2, 3, 5, -1, Integer.MIN_VALUE, Integer.MAX_VALUE, 1 << 29};
        int[] values = {0, 1, 7, 5, 999999};
        for (int mask : masks) {
            for (int value : values) {
                TeaNight x = new TeaNight();
                Due.job(x, "set 16=" + value + ";set 17=0-" + value, 1);
                x.lamp(0, 0, mask);
                x.lamp(1, 0, mask);
                end(x);
                Due.same(value + " turned by " + mask, x.word(16), value ^ mask);
                Due.same("less than 0", x.word(17), -value ^ mask);
                Due.same("as", x.as(16, 1), value ^ mask);
                Due.same("it is as it was written", x.check(), NONE);
            }
        }
        TeaNight x = new TeaNight();
        Edge.due("no mask", x, Due.ARGUMENT, y -> y.lamp(0, 0, 0));
        Due.same("nothing fails", x.test(0, 15), 0);
    }

    // "whatever its bounds": what is written may be out of them, and the job goes on with it
    private static void whateverItsBounds() {
        TeaNight x = new TeaNight();
        Due.job(x, "set 17=999999*1000+999;set 18=word 17-2*word 0;ask if word 17>word 0", 1);
        x.lamp(1, 0, 1 << 30);
        x.tell(0, TOP);
        end(x);
        int spoilt = TOP ^ 1 << 30;
        Due.same("out of bounds", x.word(17), spoilt);
        Due.same("it is read so", x.word(18), spoilt - 2 * TOP);
        Due.same("it did not fail", x.look(0, 0), 2);
        Due.same("asked", x.look(0, 8), 1);
        TeaNight y = new TeaNight();
        Due.job(y, "set 17=1;set 18=word 17", 1);
        y.lamp(1, 0, Integer.MIN_VALUE);
        end(y);
        Due.same("far out of bounds", y.word(17), Integer.MIN_VALUE + 1);
        Due.same("what would be so fails", y.look(0, 0), 6);
        Due.same("and is not written", y.led(18, 1), -2);
        // what a job reads of its own is what was written, not what it would have been
        TeaNight z = new TeaNight();
        Due.job(z, "repeat 3 set 17=2*word 17+1;set 18=word 17;repeat 2 set 17=word 17+1", 1);
        z.lamp(1, 0, 64);
        end(z);
        Due.same("repeat carries it unspoilt", z.as(18, 1), 7 + 64);
        Due.same("and begins with it spoilt", z.word(17), 71 + 2 ^ 64);
    }

    // "that a job writes on the machine (short, too; not by hand)"
    private static void onTheMachine() {
        TeaNight x = new TeaNight();
        Due.job(x, "set 17=4", 1, 0, 1, 0, false);
        x.lamp(1, 0, 1);
        x.ring(0, 1, 8);
        x.tell(17, 8);
        Due.same("not rung", x.word(1), 8);
        Due.same("not told", x.word(17), 8);
        x.way(0, 2);
        end(x);
        Due.same("not by hand", x.word(17), 4);
        x.shorter(0, 1, 0, 6);
        x.again(0);
        x.way(0, 1);
        end(x);
        Due.same("short, too", x.word(17), 7);
        x.again(0);
        x.way(0, 0);
        end(x);
        Due.same("whole", x.word(17), 5);
        Due.same("short and whole are bad alone", x.test(1, 1), 2);
        Due.same("the latest", x.doubted(), 1L << 17);
    }

    // "until it is mended"; "true; false, and nothing happens, if one is told that is not mended"
    private static void untilMended() {
        TeaNight x = new TeaNight();
        Due.job(x, "set 17=0", 1);
        Due.yes("told", x.lamp(1, 1, 4));
        Due.no("told already", x.lamp(1, 0, 8));
        Due.no("told the same", x.lamp(1, 1, 4));
        end(x);
        Due.same("as it was told first", x.word(17), 4);
        Due.no("failed, not mended", x.lamp(1, 1, 8));
        for (int i = 0; i < 3; i++) {
            x.again(0);
            end(x);
            Due.same("until it is mended", x.word(17), 4);
        }
        Due.same("caught", x.test(1, 1), 2);
        x.again(0);
        end(x);
        Due.same("mended", x.word(17), 0);
        Due.same("not caught again", x.test(1, 1), 0);
        Due.yes("it may fail again", x.lamp(1, 6, 8));
        x.again(0);
        end(x);
        Due.same("with the new mask", x.word(17), 8);
    }

    // "those that failed by now are CAUGHT and mended; the others were good"; "(One that would fail later is not.)"
    private static void byNow() {
        TeaNight x = new TeaNight();
        Due.job(x, "set 17=0", 1);
        x.minutes(5);
        x.lamp(1, 7, 4);
        Due.same("two minutes ahead", x.test(0, 15), 0);
        Due.no("it is still told", x.lamp(1, 6, 8));
        x.minutes(1);
        Due.same("one minute ahead", x.test(1, 1), 0);
        x.minutes(1);
        Due.same("in its minute", x.test(1, 1), 2);
        Due.same("once", x.test(1, 1), 0);
        TeaNight y = new TeaNight();
        y.lamp(3, 2, 1);
        y.minutes(120);
        Due.same("long behind", y.test(0, 15), 8);
    }

    // "A TEST of LAMPS from one to another one (at once)", "(not below it)"
    private static void fromOneToAnother() {
        for (int from = 0; from < 16; from += 5) {
            for (int to = from; to < 16; to += 5) {
                TeaNight x = new TeaNight();
                for (int lamp = 0; lamp < 16; lamp++) {
                    x.lamp(lamp, 0, 1);
                }
                int bits = 0;
                for (int lamp = from; lamp <= to; lamp++) {
                    bits |= 1 << lamp;
                }
                Due.same("test of " + from + " to " + to, x.test(from, to), bits);
                Due.same("how many", x.count(12), to - from + 1);
                Due.same("the rest", x.test(0, 15), 0xffff & ~bits);
                Due.same("all", x.count(12), 16);
            }
        }
        TeaNight x = new TeaNight();
        x.lamp(15, 0, 1);
        x.lamp(0, 0, 1);
        Edge.due("one below the other", x, Due.ARGUMENT, y -> y.test(15, 14));
        Edge.due("one below the other", x, Due.ARGUMENT, y -> y.test(1, 0));
        Edge.due("no lamp", x, Due.INDEX, y -> y.test(16, 15));
        Edge.due("no lamp", x, Due.INDEX, y -> y.test(15, 16));
        Edge.due("no lamp", x, Due.INDEX, y -> y.test(0, -1));
        Edge.due("no lamp", x, Due.INDEX, y -> y.test(-1, 15));
        Due.same("none was mended", x.test(0, 15), 1 << 15 | 1);
    }

    // "LAMPS that were CAUGHT in all": each time counts
    private static void caughtInAll() {
        TeaNight x = new TeaNight();
        for (int i = 1; i <= 3; i++) {
            x.lamp(2, 0, 1);
            Due.same("caught", x.test(0, 15), 4);
            Due.same("in all", x.count(12), i);
            Due.same("good", x.test(0, 15), 0);
            Due.same("in all", x.count(12), i);
        }
    }

    // "a WRITING is BAD, if it was by a job on the machine, and the first TEST of its LAMP behind it CAUGHT it"
    private static void theFirstTestBehind() {
        TeaNight x = new TeaNight();
        Due.job(x, "set 17=1;set 34=1", 1);
        x.test(0, 15);
        end(x);
        Due.same("no test behind it", x.doubted(), 0);
        Due.same("a test of other lamps", x.test(3, 15) | x.test(0, 0), 0);
        // the lamp fails only now: what the test does not know is whether it did so ahead of the writing
        x.lamp(1, 1, 1);
        Due.same("hidden", x.doubted(), 0);
        x.lamp(2, 2, 1);
        Due.same("lamp 2 would fail later", x.test(1, 2), 2);
        Due.same("17, but not 34", x.doubted(), 1L << 17);
        x.minutes(1);
        Due.same("lamp 2 has failed", x.test(0, 15), 4);
        Due.same("34 was good at its first test", x.doubted(), 1L << 17);
        Due.same("a later test that is good", x.test(0, 15), 0);
        Due.same("does not free it", x.doubted(), 1L << 17);
        x.again(0);
        end(x);
        Due.same("written anew, not tested", x.doubted(), 0);
        x.lamp(2, 3, 1);
        x.test(2, 2);
        Due.same("of one lamp alone", x.doubted(), 1L << 34);
        x.test(1, 1);
        x.lamp(1, 3, 1);
        x.test(1, 1);
        Due.same("the first was good", x.doubted(), 1L << 34);
        // of two writings of one word the latest counts, and each has its own first test
        TeaNight y = new TeaNight();
        Due.job(y, "set 17=1", 1);
        Due.job(y, "set 17=2", 1);
        end(y);
        y.test(1, 1);
        end(y);
        y.lamp(1, 2, 1);
        y.test(1, 1);
        Due.same("the second is bad", y.doubted(), 1L << 17);
        y.again(0);
        end(y);
        Due.same("over it a good one", y.doubted(), 0);
        y.test(1, 1);
        y.again(1);
        end(y);
        y.test(1, 1);
        Due.same("good", y.doubted(), 0);
    }

    private static void notByHandNotTold() {
        TeaNight x = new TeaNight();
        Due.job(x, "set 17=1", 1, 0, 1, 0, false);
        x.way(0, 2);
        x.lamp(1, 0, 1);
        x.tell(33, 1);
        x.ring(0, 1, 1);
        end(x);
        Due.same("caught", x.test(1, 1), 2);
        Due.same("by hand, told and rung are not bad", x.doubted(), 0);
        x.again(0);
        x.way(0, 0);
        end(x);
        x.lamp(1, 2, 1);
        x.test(1, 1);
        Due.same("on the machine", x.doubted(), 1L << 17);
        x.tell(17, 1);
        Due.same("told over", x.doubted(), 0);
    }

    // "or if it was by a job that did its text (not short), and the latest WRITING, ahead of all that the job wrote then, of a WORD that it READS is BAD"
    private static void byWhatItReads() {
        TeaNight x = new TeaNight();
        Due.job(x, "set 17=1", 1, 0, 1, 0, false);
        Due.job(x, "set 18=word 17", 1, 0, 1, 0, false);
        Due.job(x, "set 19=word 18", 1, 0, 1, 0, false);
        Due.job(x, "set 20=word 19", 1, 0, 1, 0, false);
        x.minutes(4);
        x.test(2, 15);
        x.lamp(1, 4, 1);
        x.test(1, 1);
        Due.same("each behind it, though their lamps were good", x.doubted(), 15L << 17);
        x.tell(18, 1);
        Due.same("what was made of it stays bad", x.doubted(), 13L << 17);
        x.again(2);
        end(x);
        Due.same("made of a good one", x.doubted(), 9L << 17);
        x.again(3);
        x.way(3, 2);
        end(x);
        Due.same("by hand of a good one", x.doubted(), 1L << 17);
        x.again(1);
        x.way(1, 2);
        end(x);
        Due.same("by hand of a bad one", x.doubted(), 3L << 17);
        x.again(1);
        x.shorter(1, 1, 0, 0);
        x.way(1, 1);
        end(x);
        Due.same("short of a bad one", x.doubted(), 1L << 17);
        // a job that reads it in a condition, or in a sum over many, or by round
        TeaNight y = new TeaNight();
        Due.job(y, "set 17=1", 1);
        Due.job(y, "set 20=1;stop if word 17>5;set 21=1", 1);
        Due.job(y, "sum 22 from 16 to 18", 1);
        Due.job(y, "ask if word 16<1;set 23=1;stop if 1<2;set 24=word 17", 1);
        Due.job(y, "set 25=word 16", 1);
        Due.job(y, "set 26=1;sum 27 from 0 to 15", 1);
        y.minutes(6);
        y.lamp(1, 6, 1);
        y.test(1, 1);
        Due.same("each that reads it", y.doubted(), 1L << 17 | 15L << 20);
        // what is read only as set ahead is not read
        TeaNight z = new TeaNight();
        Due.job(z, "set 17=1", 1);
        Due.job(z, "set 17=2;set 18=word 17", 1);
        Due.job(z, "round 17 by 1;set 19=1", 1);
        end(z);
        z.lamp(1, 1, 1);
        z.test(1, 1);
        z.minutes(1);
        Due.same("set ahead", z.doubted(), 0);
        z.test(0, 15);
        z.again(0);
        end(z);
        z.lamp(1, 3, 1);
        z.test(1, 1);
        end(z);
        Due.same("by round", z.doubted(), 1L << 17 | 1L << 19);
    }

    // "ahead of all that the job wrote then": not what it wrote itself in that doing, but what it wrote in an earlier one
    private static void aheadOfAllItWrote() {
        TeaNight x = new TeaNight();
        Due.job(x, "set 18=5;set 17=word 17+1;set 19=word 18", 1);
        end(x);
        x.test(0, 15);
        Due.same("good", x.doubted(), 0);
        x.again(0);
        end(x);
        x.lamp(1, 2, 1);
        x.test(1, 1);
        Due.same("its own lamp", x.doubted(), 1L << 17);
        x.again(0);
        end(x);
        Due.same("by its own earlier one", x.doubted(), 7L << 17);
        x.test(0, 15);
        x.tell(17, 0);
        x.again(0);
        end(x);
        Due.same("told over", x.doubted(), 0);
        // a bad one written in the same minute, ahead of the job
        TeaNight y = new TeaNight();
        Due.job(y, "set 17=1", 1, 0, 1, 0, false);
        Due.job(y, "set 18=word 17", 1, 0, 2, 0, false);
        y.way(1, 2);
        y.drop(0);
        end(y);
        y.again(0);
        end(y);
        y.lamp(1, 2, 1);
        y.test(1, 1);
        Due.same("by hand in the same minute, behind the machine", y.doubted(), 3L << 17);
    }

    // a job that failed did its text, too: what it wrote ahead
    private static void doneItsText() {
        TeaNight x = new TeaNight();
        Due.job(x, "set 17=1", 1);
        Due.job(x, "set 18=word 17;stop if 1<2;set 19=1", 1);
        x.minutes(2);
        x.lamp(1, 2, 1);
        x.test(1, 1);
        Due.same("what it wrote ahead", x.doubted(), 3L << 17);
        Due.yes("the one that failed is doubted", x.doubt(1, 0));
    }

    // "A WORD is DOUBTED, if its latest WRITING is BAD; a job, if a WORD that it WRITES is."
    private static void wordsAndJobs() {
        TeaNight x = new TeaNight();
        Due.job(x, "set 17=1;set 18=1", 1);
        Due.job(x, "set 17=2", 1);
        Due.job(x, "set 63=1", 1);
        Due.job(x, "ask if word 17>0", 1);
        x.minutes(1);
        x.lamp(1, 1, 1);
        x.test(1, 1);
        Due.same("a word", x.doubted(), 1L << 17);
        Due.yes("the job that wrote it", x.doubt(0, 0));
        Due.yes("one that would write it", x.doubt(1, 0));
        Due.no("one that writes another", x.doubt(2, 0));
        Due.no("one that only reads it", x.doubt(3, 0));
        x.minutes(1);
        Due.same("written over", x.doubted(), 0);
        Due.no("none is", x.doubt(0, 0));
        x.minutes(1);
        x.lamp(15, 3, 1);
        x.test(15, 15);
        Due.same("word 63", x.doubted(), 1L << 63);
        Due.yes("its job", x.doubt(2, 0));
        TeaNight y = new TeaNight();
        Due.same("none at first", y.doubted(), 0);
        Due.job(y, "", 1);
        Due.no("a job that writes nothing", y.doubt(0, 0));
        Due.no("it is not done", y.doubt(0, 1));
        end(y);
        Due.yes("it is beyond doubt", y.doubt(0, 1));
    }

    // "beyond doubt, if all of these are in STATE 2 or 4, and none of them is DOUBTED" (itself, and each on which it leans, also by others between)
    private static void beyondDoubt() {
        for (int state = 0; state <= 6; state++) {
            for (int which = 0; which < 3; which++) {
                TeaNight x = new TeaNight();
                Due.job(x, "set 16=1;stop if word 1>0", 2, 0, 1, 0, false);
                Due.job(x, "set 17=word 16;stop if word 2>0", 2, 0, 1, 0, false);
                Due.job(x, "set 18=word 17;stop if word 3>0", 2, 0, 1, 0, true);
                Due.job(x, "set 19=word 18", 60, 0, 1, 0, false);
                x.minutes(6);
                x.again(which);
                comeTo(x, which, state);
                Due.same("state", x.look(which, 0), state);
                boolean fine = state == 2 || state == 4;
                Due.same("what leans on job " + which + " in state " + state, x.doubt(2, 1) ? 1 : 0, fine ? 1 : 0);
                Due.same("the first", x.doubt(0, 1) ? 1 : 0, fine || which > 0 ? 1 : 0);
                Due.same("wages", x.wages(), fine ? 0 : NONE);
            }
        }
        TeaNight x = new TeaNight();
        Due.job(x, "set 16=1", 1);
        Due.job(x, "set 17=word 16", 1);
        Due.job(x, "set 18=word 17", 1, 0, 1, 0, true);
        x.minutes(3);
        Due.yes("beyond doubt", x.doubt(2, 1));
        x.lamp(0, 3, 1);
        x.test(0, 0);
        for (int job = 0; job < 3; job++) {
            Due.yes("doubted by what lies between", x.doubt(job, 0));
            Due.no("not beyond doubt", x.doubt(job, 1));
        }
        x.tell(17, 1);
        x.tell(18, 1);
        Due.no("itself not doubted", x.doubt(2, 0));
        Due.no("nor that on which it leans", x.doubt(1, 0));
        Due.no("but one behind it", x.doubt(2, 1));
        x.tell(16, 1);
        Due.yes("none is", x.doubt(2, 1));
    }

    /** A job of two minutes that waits comes to a state. */
    private static void comeTo(TeaNight x, int job, int state) {
        switch (state) {
            case 1: x.minutes(1); break;
            case 2: x.minutes(2); break;
            case 3: x.shorter(job, 1, 0, 0); x.way(job, 1); x.minutes(1); break;
            case 4: x.way(job, 2); x.minutes(1); break;
            case 5: x.drop(job); break;
            case 6: x.tell(1 + job, 1); x.minutes(2); break;
            default: break;
        }
    }
}
