/** The edges of a job's text: each sentence of the document's ==== 2 that names one, and what is just within and just beyond. */
public final class EdgeTextTest {
    private static final int TOP = 999999999;
    private static final int NONE = -1;

    public static void main(String[] args) {
        atMostTenLines();
        noLine();
        eachThingInItsPlace();
        moreMustCome();
        oneThingLeftOut();
        whichWords();
        targets();
        fromAndTo();
        digits();
        repeats();
        rounds();
        sixDeep();
        wordsAndBlanks();
        wholeNumbers();
        firstWrongByte();
        nothingIsLeftOfAWrongText();
        Due.finish();
    }

    private static void right(String text) {
        Due.wrongAt(text, NONE);
    }

    /** The first wrong thing of a text is marked by a sign ahead of it, which is none of its bytes. */
    private static void wrong(String marked) {
        int at = marked.indexOf('~');
        Due.wrongAt(marked.substring(0, at) + marked.substring(at + 1), at);
    }

    private static String times(String text, int n) {
        StringBuilder s = new StringBuilder();
        for (int i = 0; i < n; i++) {
            s.append(text);
        }
        return s.toString();
    }

    private static int lines(String text) {
        TeaNight x = new TeaNight();
        Due.job(x, text, 1);
        return x.look(0, 4);
    }

    // "each with a text: LINE { ; LINE }, at most 10" and "of an 11th LINE its first word"
    private static void atMostTenLines() {
        String nine = times("set 16=1;", 8) + "set 16=1";
        Due.same("1 line", lines("set 16=1"), 1);
        Due.same("9 lines", lines(nine), 9);
        Due.same("10 lines", lines(nine + ";set 17=1"), 10);
        String ten = nine + ";ask if 1<2";
        right(ten);
        right(ten + "  ");
        wrong(ten + ";~set 16=1");
        wrong(ten + " ;  ~repeat 2 set 16=1");
        wrong(ten + ";~sum 16 from 1 to 2");
        wrong(ten + ";~round 16 by 2;set 5");
        wrong(ten + ";~stop if 1<2");
        wrong(ten + ";~word");
        wrong(ten + ";~;");
        wrong(ten + ";~");
        wrong(ten + " ~set");
        wrong(nine + ";~");
        wrong(nine + ";set 16=1;~set 16=1;set 16=1");
    }

    // "A text that is empty, or blanks alone, has no LINE."
    private static void noLine() {
        for (int blanks : new int[] {0, 1, 2, 20, 399, 400}) {
            TeaNight x = new TeaNight();
            Due.same(blanks + " blanks", Due.job(x, times(" ", blanks), 1), 0);
            Due.same("their fault", x.fault(), NONE);
            Due.same("their lines", x.look(0, 4), 0);
            Due.same("what they read", x.words(0, false), 0);
            Due.same("what they write", x.words(0, true), 0);
            x.minutes(1);
            Due.same("they end", x.look(0, 0), 2);
            Due.same("they write nothing", x.count(2), 0);
        }
        wrong("~;");
        wrong("  ~;");
        wrong("set 16=1;~");
        wrong("set 16=1;  ~");
        wrong("set 16=1;~;set 16=1");
        wrong("~;set 16=1");
    }

    // each form of a LINE, thing by thing: cut off, and with another thing in each place
    private static void eachThingInItsPlace() {
        form("set 16 = 5", 4);
        form("repeat 3 set 16 = 5 * word 6 + old 7 - day + 2 * weather", 6, 9, 12, 14, 16, 18);
        form("sum 16 from 5 to 9", 6);
        form("round 16 by 7", 4);
        form("ask if 1 < 2", 5);
        form("stop if 3 * word 1 > 2 - old 5", 8, 11);
        form("ask if not 1 < 2 and ( 3 > day or weather < 6 ) or word 7 > 8", 6, 16, 21);
    }

    /** Whole tells how many things make a text that is right. */
    private static void form(String line, int... whole) {
        String[] things = line.split(" ");
        StringBuilder ahead = new StringBuilder();
        for (int i = 0; i < things.length; i++) {
            String where = ahead.toString();
            wrong(where + "~? " + things[i]);
            wrong(where + "~weathers");
            wrong(where + "~1000000");
            wrong(where + "~\u00e9");
            if (!endsThere(whole, i)) {
                wrong(where + "~;");
            }
            ahead.append(things[i]).append(' ');
            String cut = ahead.toString().stripTrailing();
            if (endsThere(whole, i + 1)) {
                right(cut);
            } else {
                wrong(cut + "~");
            }
        }
    }

    private static boolean endsThere(int[] whole, int things) {
        for (int n : whole) {
            if (n == things) {
                return true;
            }
        }
        return false;
    }

    // "or the text's length, if more must come": all bytes of the tape count, the blanks behind too
    private static void moreMustCome() {
        wrong("set~");
        wrong("set ~");
        wrong("set 16=   ~");
        wrong("ask if (1<2 ~");
        wrong("ask if ((1<2)~");
        wrong("repeat 2~");
        String all = "set 16=" + times("1+", 196);
        Due.same("a text of", all.length(), 399);
        wrong(all + "~");
        wrong(all + " ~");
        right(all + "1");
        wrong(times(" ", 397) + "set~");
        wrong("set" + times(" ", 397) + "~");
        wrong("set 16=1" + times(" ", 391) + ";~");
        right("set 16=1" + times(" ", 392));
        // as many things as bytes
        String things = "ask if " + times("(", 6) + "1<2" + times(")", 6);
        wrong(things + "~" + times(")", 400 - things.length()));
        right("ask if 1<" + times("1-", 195) + "1");
        wrong("ask if 1<" + times("1-", 195) + " ~");
    }

    // a thing that is left out: the next one cannot stand there
    private static void oneThingLeftOut() {
        wrong("~16=1");
        wrong("set ~=1");
        wrong("set 16 ~1");
        wrong("set 16=~;set 17=1");
        wrong("repeat ~set 16=1");
        wrong("repeat 2 ~16=1");
        wrong("repeat 2 set ~=1");
        wrong("sum ~from 1 to 2");
        wrong("sum 16 ~1 to 2");
        wrong("sum 16 from ~to 2");
        wrong("sum 16 from 1 ~2");
        wrong("sum 16 from 1 to ~;");
        wrong("round ~by 2");
        wrong("round 16 ~2");
        wrong("round 16 by ~;");
        for (String head : new String[] {"ask", "stop"}) {
            wrong(head + " ~1<2");
            wrong(head + " ~not 1<2");
            wrong(head + " if ~<2");
            wrong(head + " if ~>2");
            wrong(head + " if ~;");
            wrong(head + " if 1 ~2");
            wrong(head + " if 1~;");
            wrong(head + " if 1<~;");
            wrong(head + " if 1>~and 1<2");
            wrong(head + " if 1<2 ~3<4");
            wrong(head + " if ~and 1<2");
            wrong(head + " if ~or 1<2");
            wrong(head + " if 1<2 and ~;");
            wrong(head + " if 1<2 or ~)");
            wrong(head + " if not ~;");
            wrong(head + " if (~<2)");
            wrong(head + " if (1 ~2)");
            wrong(head + " if (~)");
            wrong(head + " if (1<2~;");
            wrong(head + " if (1<2 ~(3<4)");
            wrong(head + " if 1<2~)");
        }
        wrong("set 16=~*2");
        wrong("set 16=2*~+1");
        wrong("set 16=2 ~word 1");
        wrong("set 16=word ~+1");
        wrong("set 16=old ~*1");
        wrong("set 16=~+1");
        wrong("set 16=1+~;");
        wrong("set 16=1-~+1");
        wrong("set 16=1 ~day");
        wrong("set 16=day ~weather");
        wrong("set 16=1~set 17=1");
        wrong("set 16=1 ~ask if 1<2");
    }

    // the ends of words: N behind word and old is 0 to 63
    private static void whichWords() {
        for (String atom : new String[] {"word", "old"}) {
            right("set 16=" + atom + " 0");
            right("set 16=" + atom + " 63");
            right("set 16=" + atom + " 000063");
            wrong("set 16=" + atom + " ~64");
            wrong("set 16=" + atom + " ~999999");
            wrong("set 16=" + atom + " ~0000063");
            wrong("ask if " + atom + " ~64<1");
            wrong("ask if " + atom + " ~-1<1");
            right("ask if 1<2*" + atom + "63");
        }
        TeaNight x = new TeaNight();
        Due.job(x, "set 16=word 0+word 63", 1);
        Due.same("words 0 and 63", x.words(0, false), 1L | 1L << 63);
    }

    // "of set, sum, round: 16 to 63"
    private static void targets() {
        String[] ahead = {"set ", "repeat 2 set ", "sum ", "round "};
        String[] behind = {"=1", "=1", " from 0 to 1", " by 2"};
        for (int i = 0; i < ahead.length; i++) {
            for (String n : new String[] {"0", "15", "64", "999999", "1000016", "-16", "word"}) {
                wrong(ahead[i] + "~" + n + behind[i]);
            }
            for (int n : new int[] {16, 63}) {
                TeaNight x = new TeaNight();
                Due.job(x, ahead[i] + n + behind[i], 1);
                Due.same("what " + ahead[i] + n + " writes", x.words(0, true), 1L << n);
                x.minutes(1);
                Due.same("one writing", x.count(2), 1);
            }
        }
    }

    // "behind from and to: the latter not below the former", both 0 to 63
    private static void fromAndTo() {
        right("sum 16 from 0 to 0");
        right("sum 16 from 63 to 63");
        right("sum 16 from 0 to 63");
        right("sum 16 from 5 to 5");
        wrong("sum 16 from 5 to ~4");
        wrong("sum 16 from 63 to ~62");
        wrong("sum 16 from 1 to ~0");
        wrong("sum 16 from ~64 to 64");
        wrong("sum 16 from 63 to ~64");
        wrong("sum 16 from 0 to ~0000000");
        TeaNight x = new TeaNight();
        x.tell(0, 1);
        x.tell(5, 10);
        x.tell(6, 100);
        x.tell(7, 1000);
        x.tell(63, 10000);
        Due.job(x, "sum 20 from 6 to 6;sum 21 from 5 to 7;sum 22 from 63 to 63;sum 23 from 0 to 0;sum 24 from 0 to 19", 1);
        Due.same("all from the one to the other", x.words(0, false), 0xfffffL | 1L << 63);
        x.minutes(1);
        Due.same("from 6 to 6", x.word(20), 100);
        Due.same("from 5 to 7", x.word(21), 1110);
        Due.same("from 63 to 63", x.word(22), 10000);
        Due.same("from 0 to 0", x.word(23), 1);
        Due.same("from 0 to 19", x.word(24), 1111);
        TeaNight y = new TeaNight();
        y.tell(0, 1);
        y.tell(63, 2);
        y.tell(32, 4);
        Due.job(y, "sum 16 from 0 to 63", 1);
        Due.same("all words", y.words(0, false), -1L);
        y.minutes(1);
        Due.same("of all words", y.word(16), 7);
    }

    // "NUMBER: 1 to 6 digits"
    private static void digits() {
        right("set 16=0");
        right("set 16=000000");
        right("set 16=999999");
        wrong("set 16=~1000000");
        wrong("set 16=~0000000");
        wrong("set 16=~0000001");
        wrong("set 16=~9999999999999999999999");
        wrong("set 16=~1000000*2");
        wrong("set 16=2*~0000002");
        wrong("set ~0000016=1");
        right("set 000016=1");
        wrong("repeat ~0000002 set 16=1");
        right("repeat 000002 set 16=1");
        wrong("round 16 by ~0000002");
        right("round 16 by 000002");
        wrong("sum 16 from ~0000001 to 2");
        wrong("sum 16 from 1 to ~0000002");
        wrong("ask if ~0000001<2");
        wrong("ask if 1<~0000002");
        Due.same("999999", Due.worked("set 16=999999", 16), 999999);
        Due.same("000012", Due.worked("set 16=000012", 16), 12);
    }

    // "of repeat 1 to 9", and only ahead of set
    private static void repeats() {
        wrong("repeat ~0 set 16=1");
        wrong("repeat ~10 set 16=1");
        wrong("repeat ~999999 set 16=1");
        wrong("repeat ~set 16=1");
        wrong("repeat 2 ~repeat 2 set 16=1");
        wrong("repeat 2 ~sum 16 from 1 to 2");
        wrong("repeat 2 ~round 16 by 2");
        wrong("repeat 2 ~ask if 1<2");
        wrong("repeat 2 ~stop if 1<2");
        for (int n = 1; n <= 9; n++) {
            TeaNight x = new TeaNight();
            Due.job(x, "repeat " + n + " set 16=word 16+1", 1);
            x.minutes(1);
            Due.same("worked out so often", x.word(16), n);
            Due.same("written once", x.count(2), 1);
        }
    }

    // "of round 1 to 9999"
    private static void rounds() {
        wrong("round 16 by ~0");
        wrong("round 16 by ~10000");
        wrong("round 16 by ~999999");
        wrong("round 16 by ~word 1");
        right("round 16 by 1");
        right("round 16 by 9999");
    }

    // "( and not within one another at most 6 deep", "the ( or not that is a 7th one deep"
    private static void sixDeep() {
        for (int n = 1; n <= 6; n++) {
            right("ask if " + times("(", n) + "1<2" + times(")", n));
            right("ask if " + times("not ", n) + "1<2");
            right("ask if " + times("not ", 6 - n) + times("(", n) + "1<2" + times(")", n));
            wrong("ask if " + times("(", n) + times("not ", 6 - n) + "~not 1<2" + times(")", n));
            wrong("ask if " + times("(", n) + times("not ", 6 - n) + "~(1<2)" + times(")", n));
            wrong("ask if " + times("not ", n) + times("(", 6 - n) + "~(1<2)" + times(")", 6 - n));
            wrong("ask if " + times("not ", n) + times("(", 6 - n) + "~not 1<2" + times(")", 6 - n));
        }
        right("ask if not(not(not(1<2 and 3<4)))");
        right("ask if (((((1<2 and (3<4) or not 5<6)))))");
        wrong("ask if (((((1<2 and (~(3<4)))))))");
        wrong("ask if (((((1<2 and (3<4 or ~not 5<6))))))");
        // those that are closed do not count
        right("ask if ((((((1<2)))))) and ((((((1<2))))))");
        right("ask if not not not not not not 1<2 or not not not not not not 1<2");
        right("ask if (((((1<2) and not 1<2) or not 1<2) and (((1<2)))))");
        right("ask if " + times("not 1<2 and ", 20) + "1<2");
        right("ask if " + times("(1<2)or", 20) + "(1<2)");
        right("ask if (not 1<2 and not 1<2 and (not 1<2 or not(not(1<2))))");
        wrong("ask if (not 1<2 and not 1<2 and (not 1<2 or not(not(~not 1<2))))");
        right("ask if not(1<2)and not(1<2)and not(1<2)and not(1<2)and not(1<2)and not(1<2)and not(1<2)");
        right("ask if ((((((1<2 or 1<2 and 1<2 or 1<2))))))");
        // what is deepest is worked out, of and and or at each depth
        String deep = "1<2 or 2<1 and (1<2 or 2<1 and (1<2 or 2<1 and (1<2 or 2<1 and (1<2 or 2<1 and (1<2 or 2<1 and (2<1))))))";
        TeaNight x = new TeaNight();
        Due.job(x, "ask if " + deep, 1);
        Due.job(x, "ask if " + deep.replace("2<1", "0<0").replace("1<2", "2<1"), 1);
        Due.job(x, "ask if " + deep.replace("or 2<1", "or 3<4").replace("1<2", "2<1").replace("(2<1)", "(1<2)"), 1);
        x.minutes(3);
        Due.same("each or", x.look(0, 8), 1);
        Due.same("no or", x.look(1, 8), 0);
        Due.same("only the deepest", x.look(2, 8), 1);
        // six ( , each behind an or and an and that are open, and not behind them
        String open = times("2<1 or 1<2 and (", 6) + "1<2" + times(")", 6);
        TeaNight y = new TeaNight();
        Due.job(y, "ask if " + open, 1);
        Due.job(y, "ask if " + times("2<1 or 1<2 and not ", 6) + "1<2", 1);
        Due.job(y, "ask if " + times("2<1 or 1<2 and (", 5) + "not 1<2" + times(")", 5), 1);
        y.minutes(3);
        Due.same("six deep", y.look(0, 8), 1);
        Due.same("each not of its own test alone", y.look(1, 8), 1);
        Due.same("not in the sixth", y.look(2, 8), 0);
        wrong("ask if " + times("2<1 or 1<2 and (", 6) + "2<1 or 1<2 and ~(1<2" + times(")", 7));
        // or and and open in the sixth, too: all that can be open at once
        for (int i = 0; i < 8; i++) {
            String inner = ((i & 4) != 0 ? "1<2" : "2<1") + " or " + ((i & 2) != 0 ? "1<2" : "2<1") + " and " + ((i & 1) != 0 ? "1<2" : "2<1");
            boolean holds = (i & 4) != 0 || (i & 3) == 3;
            TeaNight z = new TeaNight();
            Due.job(z, "ask if " + times("2<1 or 1<2 and (", 6) + inner + times(")", 6), 1);
            Due.job(z, "ask if not(" + times("1<2 and not(", 2) + inner + ")))", 1);
            z.minutes(2);
            Due.same("in the sixth " + inner, z.look(0, 8), holds ? 1 : 0);
            Due.same("in three not " + inner, z.look(1, 8), holds ? 0 : 1);
        }
    }

    // "Words are as long as a to z go on; between all there may be blanks (32), also ahead and behind."
    private static void wordsAndBlanks() {
        right("set16=word0+old63-day+2*weather");
        right("repeat9set16=2*word16");
        right("sum16from0to63;round16by5;ask if1<2;stop if1<2and3<4or5<6and not(1<2)");
        right("  set  16  =  1  +  2  *  word  3  -  old  4  ");
        right(" ask  if  not  (  1  <  2  )  and  3  >  4  ;  stop  if  1  <  2  ");
        right("ask if(not(1<2))");
        wrong("~sets 16=1");
        wrong("~sett16=1");
        wrong("~setword 16=1");
        wrong("~se t 16=1");
        wrong("ask ~ifnot 1<2");
        wrong("ask if ~notday<1");
        wrong("ask if 1<~dayand 1<2");
        wrong("ask if day<~weatheror 1<2");
        wrong("set 16=~dayz");
        wrong("set 16=~daya");
        wrong("set 16=~wor d 1");
        wrong("set ~1 6=1");
        wrong("set 16=1 ~2");
        wrong("set 16=2*3 ~4");
        // what is just beyond a and z, 0 and 9
        wrong("set 16=day~`");
        wrong("set 16=day~{");
        wrong("set 16=day~A");
        wrong("set 16=weather~Z");
        wrong("set 16=1~/");
        wrong("set 16=1~:");
        // no other byte is a blank
        for (char c : new char[] {0, 1, 9, 10, 13, 31, 33, 127, 128, 160, 255}) {
            wrong("set~" + c + "16=1");
            wrong("~" + c + "set 16=1");
            wrong("set 16=1~" + c);
            wrong("~" + c);
        }
    }

    // "(A NUMBER ahead of a * is a whole one; of a PART of a NUMBER alone likewise.)": neither is a WORD's
    private static void wholeNumbers() {
        Due.same("a part of 64", Due.worked("set 16=64", 16), 64);
        Due.same("64 times", Due.worked("set 16=64*64", 16), 4096);
        Due.same("0 times", Due.worked("set 16=0*999999+7", 16), 7);
        Due.same("times 0", Due.worked("set 16=999999*0+7", 16), 7);
        Due.same("less 0 times", Due.worked("set 16=7-0*5", 16), 7);
        Due.same("999 times 999999", Due.worked("set 16=999*999999", 16), 998999001);
        wrong("set 16=2*3~*4");
        wrong("set 16=word 1~*2");
        wrong("set 16=day~*2");
        wrong("set 16=~*2");
        wrong("set 16=2*~*2");
        wrong("set 16=2*~-1");
        wrong("set 16=~-1");
        wrong("set 16=~+1");
        wrong("set 16=1+~+1");
        wrong("set 16=1-~-1");
        wrong("set 16=~(1)");
        wrong("set 16=2*~(1)");
        wrong("ask if (1~)<2");
        wrong("ask if (1+1~)<2");
    }

    // "The first wrong byte: the begin of the first thing that cannot stand there", and NONE without one
    private static void firstWrongByte() {
        wrong("~x;set 15=1");
        wrong("set 16=1;~x");
        wrong("set 16=1 ~x;set 15=1");
        wrong("set ~15=1;set 15=1;x");
        wrong("ask if 1<2 and ~or 1<2");
        wrong("ask if 1<2 or ~and 1<2");
        wrong("ask if ~and 1<2");
        wrong("ask if ~)");
        wrong("ask if (~)");
        wrong("ask if (1<2 ~;set 16=1)");
        wrong("ask if (1<2)~)");
        wrong("ask if ((1<2))~) and 1<2");
        wrong("ask if 1<2~)");
        wrong("ask if 1<2 ~not 1<2");
        wrong("ask if 1<2~(1<2)");
        wrong("ask if 1<2~<3");
        wrong("ask if 1~=2");
        wrong("ask if 1<~=2");
        wrong("ask if not ~and");
        wrong("ask ~not 1<2");
        wrong("stop ~ask if 1<2");
        wrong("set 16=1 ~if 1<2");
        wrong("set 16~-1");
        wrong("sum 16 ~to 1 from 2");
        wrong("sum 16 from 1 ~from 2");
        wrong("sum 16 ~=1");
        wrong("round 16 ~to 5");
        wrong("set 16=word ~day");
        wrong("set 16=word ~;");
        wrong("set 16=old ~word 5");
        wrong("~16=1");
        wrong("~if 1<2");
        wrong("~=");
        TeaNight x = new TeaNight();
        Due.same("ahead of any", x.fault(), NONE);
        Due.feed(x, "set 16=1 x");
        Edge.due("a wrong text", x, Due.ARGUMENT, y -> y.job(1, 1, 1, 1, false));
        Due.same("its fault", x.fault(), 9);
        Due.job(x, "", 1);
        Due.same("of the latest text, which is right", x.fault(), NONE);
        Due.feed(x, "?");
        Edge.due("a text wrong at once", x, Due.ARGUMENT, y -> y.job(1, 1, 1, 1, false));
        Due.same("its fault", x.fault(), 0);
        // bytes behind the tape's end are not of the text
        x.feed(0x73657420, 0x31363d31, 0x3f3f3f3f, 0x3f3f3f3f, 0x3f3f3f3f);
        x.end(8);
        Due.same("set 16=1", x.job(1, 1, 1, 1, false), 1);
        Due.same("its fault", x.fault(), NONE);
        Due.same("the words that it writes", x.words(1, true), 1L << 16);
        Due.yes("a word in its bounds", x.tell(16, TOP) == 1);
    }

    /** Behind a text that stops within ( and not, and, or, the next one is read as the first. */
    private static void nothingIsLeftOfAWrongText() {
        String[] stopping = {"ask if ((((((1<2", "ask if not not not not not not", "ask if not(not(not(1<2 or", "ask if (1<2 and (1<2 or (1<2 and",
            "set 16=1;set 17=word 3;ask if (", "repeat 9 set 63=word 62-"};
        for (String text : stopping) {
            TeaNight x = new TeaNight();
            Due.feed(x, text);
            Edge.due("a text that stops", x, Due.ARGUMENT, y -> y.job(1, 1, 1, 1, false));
            Due.same("its fault", x.fault(), text.length());
            String next = "ask if not(not(not(1<2 and 3<4)))or 2<1;ask if ((((((1<2))))));set 20=word 21";
            Due.same("the next text", Due.job(x, next, 1), 0);
            Due.same("its lines", x.look(0, 4), 3);
            Due.same("what it reads", x.words(0, false), 1L << 21);
            Due.same("what it writes", x.words(0, true), 1L << 20);
            x.minutes(1);
            Due.same("asked", x.look(0, 8), 1);
            Due.same("written", x.count(2), 1);
            Due.feed(x, "ask if (((((((1<2");
            Edge.due("seven deep", x, Due.ARGUMENT, y -> y.job(1, 1, 1, 1, false));
            Due.same("its fault", x.fault(), 13);
        }
    }
}
