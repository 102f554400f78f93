/**
 * The promises 1 to 22 in their order: arguments that are just small enough, just large enough, too small and too
 * large, the order of the checks, and what is answered of nothing and of the most that there can be. What a call
 * that is refused leaves as it was is the matter of RefusedTest.
 */
public final class PromisesTest {
    private static final int MIN = Integer.MIN_VALUE;
    private static final int MAX = Integer.MAX_VALUE;
    private static final String TWENTY = "a,b,c,d,e,f,g,h,i,j,k,l,m,n,o,p,q,r,s,t";

    public static void main(String[] args) {
        aNewObject();
        objectsAreApart();
        write();
        pass();
        passToTheMost();
        setUntried();
        addWords();
        addWordsToTheMost();
        removeWord();
        doSheet();
        type();
        clearText();
        undo();
        keepAndRestore();
        letter();
        join();
        word();
        letterOf();
        sheet();
        covers();
        worst();
        worstOfEveryPart();
        missing();
        sheetsTo();
        sheetsToTwenty();
        count();
        countToTheMost();
        Check.end();
    }

    /** Promise 1: "Creates a child without tries, and an empty list." */
    private static void aNewObject() {
        PracticeSheets x = new PracticeSheets();
        Check.due("words", x.count(0), 0);
        Check.due("letters that are untried", x.count(3), 26);
        Check.due("joins that have tries", x.count(4), 0);
        Check.due("history", x.undo(), Check.NONE);
        Check.due("snapshot", x.restore(), Check.NONE);
        Check.due("text", x.count(11), 0);
        Check.due("setting", x.count(2), 5);
        Check.due("letters that are missing", x.missing(false), 0);
        Check.due("joins that are missing", x.missing(true), 0);
        Check.due("keep", x.keep(), 0);
        Check.due("an empty snapshot is a snapshot", x.restore(), 0);
    }

    /** The same: what one object does is not seen in another one. */
    private static void objectsAreApart() {
        PracticeSheets x = new PracticeSheets();
        PracticeSheets y = new PracticeSheets();
        Check.write(x, "a!-b!");
        Check.add(x, "ab");
        x.keep();
        x.setUntried(9);
        x.covers(1, 0);
        int[] counts = {0, 0, 5, 26, 0, 0, 0, 0, 0, 0, 0, 0};
        for (int what = 0; what < counts.length; what++) {
            Check.due("count(" + what + ") of the other", y.count(what), counts[what]);
        }
        Check.due("undo of the other", y.undo(), Check.NONE);
        Check.due("restore of the other", y.restore(), Check.NONE);
        Check.add(y, "z");
        Check.due("z of the first", x.letter('z', 3), 0);
    }

    /** Promise 2: "Writes the text, which stays .. Returns how many slips it has". */
    private static void write() {
        PracticeSheets x = new PracticeSheets();
        Check.due("an empty text", x.write(), -100);
        Check.due("no slip", Check.write(x, "a"), 0);
        Check.due("the text stays", x.count(11), 1);
        Check.due("again", x.write(), 0);
        Check.due("two tries", x.letter('a', 0), 2);
        Check.due("typed on", x.type('!'), 2);
        Check.due("a slip", x.write(), 1);
        Check.due("typed on", x.type('!'), 3);
        Check.due("a fault", x.write(), -102);
        Check.due("the text with a fault stays, too", x.count(11), 3);
        Check.due("three tries", x.letter('a', 0), 3);
        Check.due("29 slips", Check.write(x, "a!-b!-c!-d!-e!-f!-g!-h!-i!-j!-k!-l!-m!-n!-o!"), 29);
        Check.due("words of a list are no written word", Check.write(x, "a,b"), -101);
        Check.due("what is written does not come to the list", x.count(0), 0);
    }

    /** Promise 3: "weeks: 1 to 20"; "how many letters and joins become untried; BAD_VALUE; FULL ..". */
    private static void pass() {
        PracticeSheets x = new PracticeSheets();
        int[] wrong = {0, -1, 21, 999, 1000, MIN, MAX, MAX - 998};
        for (int weeks : wrong) {
            Check.due("pass(" + weeks + ")", x.pass(weeks), Check.BAD);
        }
        Check.due("no week has passed", x.count(1), 0);
        Check.due("nothing was tried", x.pass(1), 0);
        Check.due("nothing was tried", x.pass(20), 0);
        Check.due("21 weeks", x.count(1), 21);
        Check.write(x, "a!-bc");
        Check.due("three letters and two joins", x.pass(1), 5);
        Check.due("once only", x.pass(1), 0);
        Check.write(x, "dd");
        Check.due("dd, but not d", x.pass(1), 1);
        Check.due("d", x.pass(1), 1);
        Check.write(x, "abcdefghijklmno");
        Check.due("all of 29 parts", x.pass(20), 29);
    }

    /** Promise 3: "FULL if the count of weeks would be more than 999". */
    private static void passToTheMost() {
        PracticeSheets x = new PracticeSheets();
        for (int i = 0; i < 49; i++) {
            Check.due("pass(20)", x.pass(20), 0);
        }
        Check.due("980 and 20 are 1000", x.pass(20), Check.FULL);
        Check.due("980 and 19 are 999", x.pass(19), 0);
        Check.due("one more", x.pass(1), Check.FULL);
        Check.due("20 more", x.pass(20), Check.FULL);
        Check.due("21 are a bad value first", x.pass(21), Check.BAD);
        Check.due("so is none", x.pass(0), Check.BAD);
        Check.due("a sum that would wrap around", x.pass(MAX), Check.BAD);
        Check.due("and one below", x.pass(MIN), Check.BAD);
        Check.due("999 weeks", x.count(1), 999);
        x.undo();
        Check.due("980 weeks", x.count(1), 980);
        for (int week = 981; week <= 999; week++) {
            Check.due("one by one", x.pass(1), 0);
        }
        Check.due("999 weeks", x.count(1), 999);
        Check.due("one more", x.pass(1), Check.FULL);
    }

    /** Promise 4: "untried: 0 to 99"; "the previous number; BAD_VALUE; NONE if it is so already". */
    private static void setUntried() {
        PracticeSheets x = new PracticeSheets();
        Check.due("5 at first", x.setUntried(5), Check.NONE);
        Check.due("-1", x.setUntried(-1), Check.BAD);
        Check.due("100", x.setUntried(100), Check.BAD);
        Check.due("min", x.setUntried(MIN), Check.BAD);
        Check.due("max", x.setUntried(MAX), Check.BAD);
        Check.due("0", x.setUntried(0), 5);
        Check.due("0 again", x.setUntried(0), Check.NONE);
        Check.due("99", x.setUntried(99), 0);
        Check.due("99 again", x.setUntried(99), Check.NONE);
        Check.due("98", x.setUntried(98), 99);
        Check.due("5", x.setUntried(5), 98);
        Check.due("four acts", x.count(10), 4);
    }

    /** Promise 5: "those that are not on it yet, in their order"; "NONE if none comes to it". */
    private static void addWords() {
        PracticeSheets x = new PracticeSheets();
        Check.due("an empty text", x.addWords(), -100);
        Check.due("one", Check.add(x, "m"), 1);
        Check.due("the text stays", x.count(11), 1);
        Check.due("none", x.addWords(), Check.NONE);
        Check.due("two of three, in their order", Check.add(x, "z,m,a"), 2);
        Check.same("list", Check.list(x), "m z a");
        Check.due("none of three", Check.add(x, "a,m,z"), Check.NONE);
        Check.same("list", Check.list(x), "m z a");
        Check.due("one that comes twice", Check.add(x, "b,b"), 1);
        Check.due("a fault behind a new word", Check.add(x, "c,"), -102);
        Check.due("adds nothing", x.count(0), 4);
        Check.due("acts", x.count(10), 3);
        Check.due("30 words that are one", Check.add(x, "c,".repeat(29) + "c"), 1);
    }

    /** Promise 5: "FULL if the list would have more than 20"; the fault comes ahead of it, NONE behind it. */
    private static void addWordsToTheMost() {
        PracticeSheets x = new PracticeSheets();
        Check.due("21", Check.add(x, TWENTY + ",u"), Check.FULL);
        Check.due("30", Check.add(x, TWENTY + ",u,v,w,x,y,z,aa,ab"), Check.FULL);
        Check.due("21 with a fault", Check.add(x, TWENTY + ",u,"), -142);
        Check.due("nothing came", x.count(0), 0);
        Check.due("20, two of them twice", Check.add(x, TWENTY + ",a,t"), 20);
        Check.due("none is more", x.addWords(), Check.NONE);
        x.removeWord(0);
        Check.due("19 and one", x.addWords(), 1);
        Check.same("the last", Check.spelled(x, 19), "a");
        x.removeWord(0);
        x.removeWord(0);
        Check.due("18 and three", Check.add(x, "x,y,z"), Check.FULL);
        Check.due("18 still", x.count(0), 18);
        Check.due("18 and two, among others", Check.add(x, "d,x,e,y,f"), 2);
        Check.due("20", x.count(0), 20);
        Check.due("a fault in a full list", Check.add(x, "z!"), -101);
    }

    /** Promise 6: "word: a word"; "how many are left; UNKNOWN". */
    private static void removeWord() {
        PracticeSheets x = new PracticeSheets();
        Check.due("of none", x.removeWord(0), Check.UNKNOWN);
        Check.add(x, TWENTY);
        int[] unknown = {-1, 20, 21, MIN, MAX};
        for (int word : unknown) {
            Check.due("removeWord(" + word + ")", x.removeWord(word), Check.UNKNOWN);
        }
        Check.due("the last", x.removeWord(19), 19);
        Check.due("it is gone", x.removeWord(19), Check.UNKNOWN);
        Check.due("the first", x.removeWord(0), 18);
        Check.same("list", Check.list(x), "b c d e f g h i j k l m n o p q r s");
        x.undo();
        x.undo();
        Check.due("20 again", x.count(0), 20);
        Check.same("the last again", Check.spelled(x, 19), "t");
        PracticeSheets y = new PracticeSheets();
        Check.add(y, "a");
        Check.due("the only one", y.removeWord(0), 0);
        Check.due("of none", y.removeWord(0), Check.UNKNOWN);
    }

    /** Promise 7: "lines: 1 to 10"; "how many lines it has; BAD_VALUE; NONE if it has none". */
    private static void doSheet() {
        PracticeSheets x = new PracticeSheets();
        int[] wrong = {0, -1, 11, MIN, MAX};
        for (int lines : wrong) {
            Check.due("without words, doSheet(" + lines + ")", x.doSheet(lines), Check.BAD);
        }
        Check.due("without words", x.doSheet(1), Check.NONE);
        Check.add(x, TWENTY);
        for (int lines : wrong) {
            Check.due("doSheet(" + lines + ")", x.doSheet(lines), Check.BAD);
        }
        Check.due("one line", x.doSheet(1), 1);
        Check.due("a is written", x.letter('a', 0), 1);
        Check.due("ten lines", x.doSheet(10), 10);
        Check.due("b to k are written", x.count(3), 15);
        Check.due("the nine that are left", x.doSheet(10), 9);
        Check.due("none gains", x.doSheet(10), Check.NONE);
        Check.due("words written", x.count(7), 20);
        Check.due("sheets", x.count(9), 3);
        Check.due("no slip", x.count(8), 0);
        PracticeSheets y = new PracticeSheets();
        Check.write(y, "a!-a!");
        Check.add(y, "aaa,a");
        Check.due("a sheet of all words", y.doSheet(10), 2);
        Check.due("each letter of each line", y.letter('a', 0), 6);
        Check.due("each join of each line", y.join('a', 'a', 0), 3);
        Check.due("slips stay", y.letter('a', 1), 2);
        Check.due("slips of joins stay", y.join('a', 'a', 1), 1);
    }

    /** Promise 8: "any character"; "the length of the text then; FULL if it has 60 characters". */
    private static void type() {
        PracticeSheets x = new PracticeSheets();
        char[] signs = {0, 1, 10, ' ', '!', ',', '-', 'A', 'a', 'z', 127, 128, 255, 256,
            0xD800, 0xDFFF, 0xFFFE, 0xFFFF};
        for (int i = 0; i < signs.length; i++) {
            Check.due("type " + (int) signs[i], x.type(signs[i]), i + 1);
        }
        for (int i = signs.length; i < 60; i++) {
            Check.due("type", x.type('a'), i + 1);
        }
        Check.due("the 61st", x.type('a'), Check.FULL);
        Check.due("and again", x.type('!'), Check.FULL);
        Check.due("length", x.count(11), 60);
        Check.due("no act", x.count(10), 0);
    }

    /** Promise 9: "the length that it had". */
    private static void clearText() {
        PracticeSheets x = new PracticeSheets();
        Check.due("an empty text", x.clearText(), 0);
        x.type('a');
        Check.due("one character", x.clearText(), 1);
        Check.due("an empty text again", x.clearText(), 0);
        Check.due("nothing to write", x.write(), -100);
        Check.text(x, "aaaaaaaaaaaaaaaaaaaaaaaaaaaaaaaaaaaaaaaaaaaaaaaaaaaaaaaaaaaa");
        Check.due("60 characters", x.clearText(), 60);
        Check.due("no act", x.count(10), 0);
        x.type('b');
        Check.due("what was behind is gone", x.write(), 0);
        Check.due("b", x.letter('b', 0), 1);
        Check.due("a", x.letter('a', 0), 0);
    }

    /** Promise 10: "Removes and restores the latest state"; "the number of states that are left; NONE ..". */
    private static void undo() {
        PracticeSheets x = new PracticeSheets();
        Check.due("without a state", x.undo(), Check.NONE);
        for (int i = 1; i <= 5; i++) {
            Check.write(x, "a");
        }
        for (int left = 3; left >= 0; left--) {
            Check.due("undo", x.undo(), left);
            Check.due("tries", x.letter('a', 0), left + 1);
        }
        Check.due("without a state", x.undo(), Check.NONE);
        Check.due("the first write is out of reach", x.letter('a', 0), 1);
        x.write();
        Check.due("one state", x.undo(), 0);
        Check.due("none", x.undo(), Check.NONE);
        for (int i = 0; i < 40; i++) {
            x.write();
            x.write();
            x.undo();
        }
        Check.due("many states, one after the other", x.letter('a', 0), 41);
        Check.due("three of four are left", x.count(10), 3);
        Check.due("two are left", x.undo(), 2);
        Check.due("tries", x.letter('a', 0), 40);
    }

    /** Promises 11 and 12: "in place of the one that was", "which stays", "NONE if there is no snapshot". */
    private static void keepAndRestore() {
        PracticeSheets x = new PracticeSheets();
        Check.due("no snapshot", x.restore(), Check.NONE);
        Check.add(x, TWENTY);
        Check.due("keep of 20", x.keep(), 20);
        x.removeWord(0);
        Check.due("keep of 19", x.keep(), 19);
        Check.due("keep is no act", x.count(10), 2);
        Check.due("undo leaves the snapshot", x.undo(), 1);
        Check.due("20 words", x.count(0), 20);
        Check.due("restore", x.restore(), 19);
        Check.same("the first word", Check.spelled(x, 0), "b");
        Check.due("restore is an act", x.count(10), 2);
        Check.due("undo of restore", x.undo(), 1);
        Check.due("20 words", x.count(0), 20);
        Check.due("undo of adding", x.undo(), 0);
        Check.due("restore into an empty list", x.restore(), 19);
        Check.due("restore of the same", x.restore(), 19);
        Check.due("is an act, too", x.count(10), 2);
        x.undo();
        x.undo();
        Check.due("keep of none", x.keep(), 0);
        Check.add(x, "a");
        Check.due("restore of none", x.restore(), 0);
        Check.due("no words", x.count(0), 0);
    }

    /** Promise 13: "Returns the number; UNKNOWN; BAD_VALUE." */
    private static void letter() {
        PracticeSheets x = new PracticeSheets();
        Check.write(x, "z!a");
        Check.add(x, "zzz,z,az,a");
        int[] z = {1, 1, 33, 3};
        for (int what = 0; what < 4; what++) {
            Check.due("letter('z', " + what + ")", x.letter('z', what), z[what]);
        }
        for (int what : new int[] {-1, 4, MIN, MAX}) {
            Check.due("letter('z', " + what + ")", x.letter('z', what), Check.BAD);
            Check.due("UNKNOWN comes first", x.letter('Z', what), Check.UNKNOWN);
        }
        for (char sign : new char[] {0, '`', '{', 'A', 'Z', '!', '-', ',', 255, 97 + 256, 0xFFFF}) {
            Check.due("letter " + (int) sign, x.letter(sign, 0), Check.UNKNOWN);
        }
        PracticeSheets y = new PracticeSheets();
        Check.add(y, "sa,sb,sc,sd,se,sf,sg,sh,si,sj,sk,sl,sm,sn,so,sp,sq,sr,ss,st");
        Check.due("20 words have it", y.letter('s', 3), 20);
    }

    /** Promise 14: "Returns the number; UNKNOWN (one or other); BAD_VALUE." */
    private static void join() {
        PracticeSheets x = new PracticeSheets();
        Check.write(x, "z-a");
        Check.add(x, "za,zaza,az,z,a");
        int[] za = {1, 1, 33, 2};
        for (int what = 0; what < 4; what++) {
            Check.due("join('z', 'a', " + what + ")", x.join('z', 'a', what), za[what]);
        }
        Check.due("az of zaza and az", x.join('a', 'z', 3), 2);
        Check.due("az is untried", x.join('a', 'z', 0), 0);
        for (int what : new int[] {-1, 4, MIN, MAX}) {
            Check.due("join('z', 'a', " + what + ")", x.join('z', 'a', what), Check.BAD);
            Check.due("UNKNOWN comes first", x.join('A', 'a', what), Check.UNKNOWN);
            Check.due("for the other one, too", x.join('a', 'A', what), Check.UNKNOWN);
        }
        for (char sign : new char[] {0, '`', '{', 'A', 'Z', '!', '-', ',', 255, 97 + 256, 0xFFFF}) {
            Check.due("join of " + (int) sign + " and a", x.join(sign, 'a', 0), Check.UNKNOWN);
            Check.due("join of a and " + (int) sign, x.join('a', sign, 0), Check.UNKNOWN);
            Check.due("join of z and " + (int) sign, x.join('z', sign, 0), Check.UNKNOWN);
        }
        PracticeSheets y = new PracticeSheets();
        Check.add(y, "sta,stb,stc,std,ste,stf,stg,sth,sti,stj,stk,stl,stm,stn,sto");
        Check.add(y, "stp,stq,str,sts,stt");
        Check.due("20 words have it", y.join('s', 't', 3), 20);
    }

    /** Promise 15: "Returns the number; UNKNOWN; BAD_VALUE." */
    private static void word() {
        PracticeSheets x = new PracticeSheets();
        Check.due("no word", x.word(0, 0), Check.UNKNOWN);
        Check.due("UNKNOWN comes first", x.word(0, 5), Check.UNKNOWN);
        Check.write(x, "a!");
        Check.add(x, "a,abcdefghijklmno");
        int[] one = {1, 33, 1, 0, 33};
        int[] other = {15, 33, 29, 28, 33 + 28 * 5};
        for (int what = 0; what < 5; what++) {
            Check.due("word(0, " + what + ")", x.word(0, what), one[what]);
            Check.due("word(1, " + what + ")", x.word(1, what), other[what]);
        }
        for (int what : new int[] {-1, 5, MIN, MAX}) {
            Check.due("word(1, " + what + ")", x.word(1, what), Check.BAD);
            Check.due("word(2, " + what + ")", x.word(2, what), Check.UNKNOWN);
            Check.due("word(-1, " + what + ")", x.word(-1, what), Check.UNKNOWN);
        }
        for (int word : new int[] {-1, 2, MIN, MAX}) {
            Check.due("word(" + word + ", 0)", x.word(word, 0), Check.UNKNOWN);
        }
        x.sheet(10, 0, 0);
        Check.due("the gain is that on an empty sheet", x.word(0, 4), 33);
        x.doSheet(1);
        Check.due("on a sheet of its own: 100 / 4", x.word(0, 4), 25);
        PracticeSheets y = new PracticeSheets();
        Check.add(y, TWENTY);
        Check.due("word 19", y.word(19, 0), 1);
        Check.due("word 20", y.word(20, 0), Check.UNKNOWN);
    }

    /** Promise 16: "the number of the letter; UNKNOWN; BAD_VALUE if index is negative; NONE if ..". */
    private static void letterOf() {
        PracticeSheets x = new PracticeSheets();
        Check.due("no word", x.letterOf(0, 0), Check.UNKNOWN);
        Check.add(x, "z,lmnopqrstuvwxyz");
        Check.due("z", x.letterOf(0, 0), 25);
        Check.due("behind one letter", x.letterOf(0, 1), Check.NONE);
        for (int index = 0; index < 15; index++) {
            Check.due("letter " + index, x.letterOf(1, index), 11 + index);
        }
        for (int index : new int[] {15, 16, 60, MAX}) {
            Check.due("letterOf(1, " + index + ")", x.letterOf(1, index), Check.NONE);
        }
        for (int index : new int[] {-1, -2, MIN}) {
            Check.due("letterOf(1, " + index + ")", x.letterOf(1, index), Check.BAD);
            Check.due("UNKNOWN comes first", x.letterOf(2, index), Check.UNKNOWN);
        }
        for (int word : new int[] {-1, 2, 20, MIN, MAX}) {
            Check.due("letterOf(" + word + ", 0)", x.letterOf(word, 0), Check.UNKNOWN);
            Check.due("ahead of NONE, too", x.letterOf(word, MAX), Check.UNKNOWN);
        }
        x.removeWord(1);
        Check.due("a word that is removed", x.letterOf(1, 0), Check.UNKNOWN);
    }

    /** Promise 17: "BAD_VALUE (lines, line is negative, or what); NONE if the sheet has not so many". */
    private static void sheet() {
        PracticeSheets x = new PracticeSheets();
        Check.due("without words", x.sheet(1, 0, 0), Check.NONE);
        Check.due("without words, 10 lines", x.sheet(10, 9, 1), Check.NONE);
        for (int i = 0; i < 2; i++) {
            for (int lines : new int[] {0, -1, 11, MIN, MAX}) {
                Check.due("sheet(" + lines + ", 0, 0)", x.sheet(lines, 0, 0), Check.BAD);
            }
            for (int line : new int[] {-1, -2, MIN}) {
                Check.due("sheet(10, " + line + ", 0)", x.sheet(10, line, 0), Check.BAD);
            }
            for (int what : new int[] {-1, 2, MIN, MAX}) {
                Check.due("sheet(10, 0, " + what + ")", x.sheet(10, 0, what), Check.BAD);
                Check.due("ahead of NONE", x.sheet(10, MAX, what), Check.BAD);
            }
            Check.add(x, TWENTY);
        }
        for (int line = 0; line < 10; line++) {
            Check.due("word of line " + line, x.sheet(10, line, 0), line);
            Check.due("gain of line " + line, x.sheet(10, line, 1), 5);
        }
        for (int line : new int[] {10, 11, 20, MAX}) {
            Check.due("sheet(10, " + line + ", 0)", x.sheet(10, line, 0), Check.NONE);
        }
        Check.due("line 1 of a sheet of one line", x.sheet(1, 1, 0), Check.NONE);
        Check.due("line 9 of a sheet of nine", x.sheet(9, 9, 0), Check.NONE);
        Check.due("line 8 of a sheet of nine", x.sheet(9, 8, 0), 8);
    }

    /** Promise 18: "lines: 1 to 10"; "Returns the number; BAD_VALUE." */
    private static void covers() {
        PracticeSheets x = new PracticeSheets();
        for (int what = 0; what < 5; what++) {
            Check.due("of none, covers(1, " + what + ")", x.covers(1, what), 0);
            Check.due("of none, covers(10, " + what + ")", x.covers(10, what), 0);
        }
        for (int i = 0; i < 2; i++) {
            for (int lines : new int[] {0, -1, 11, MIN, MAX}) {
                Check.due("covers(" + lines + ", 0)", x.covers(lines, 0), Check.BAD);
                Check.due("both are bad", x.covers(lines, 5), Check.BAD);
            }
            for (int what : new int[] {-1, 5, MIN, MAX}) {
                Check.due("covers(1, " + what + ")", x.covers(1, what), Check.BAD);
            }
            Check.add(x, "az,zq,a");
        }
        Check.write(x, "a!-z");
        Check.write(x, "az");
        // a and az: 1 of 2, 25; z 0; q and zq are untried; az 50, then a 12, then zq 10
        int[] due = {3, 3, 2, 50, 72};
        for (int what = 0; what < due.length; what++) {
            Check.due("covers(10, " + what + ")", x.covers(10, what), due[what]);
            Check.due("covers(3, " + what + ")", x.covers(3, what), due[what]);
        }
        Check.due("gains of two", x.covers(2, 4), 62);
        Check.due("lines of one", x.covers(1, 0), 1);
        Check.due("joins of one", x.covers(1, 2), 1);
    }

    /** Promise 19: "the greatest first, of several the one with the lowest number; those with a need of 0 ..". */
    private static void worst() {
        PracticeSheets x = new PracticeSheets();
        for (int rank : new int[] {-1, MIN}) {
            Check.due("of none, worst(false, " + rank + ")", x.worst(false, rank), Check.BAD);
            Check.due("of none, worst(true, " + rank + ")", x.worst(true, rank), Check.BAD);
        }
        Check.due("of none", x.worst(false, 0), Check.NONE);
        Check.due("of none", x.worst(true, 0), Check.NONE);
        Check.write(x, "z!a!m");
        Check.write(x, "z!");
        Check.due("z: 2 of 2", x.worst(false, 0), 25);
        Check.due("a: 1 of 1", x.worst(false, 1), 0);
        Check.due("m has no need", x.worst(false, 2), Check.NONE);
        for (int rank : new int[] {26, 702, MAX}) {
            Check.due("worst(false, " + rank + ")", x.worst(false, rank), Check.NONE);
        }
        Check.due("no join has a need", x.worst(true, 0), Check.NONE);
        Check.write(x, "a!");
        Check.due("a and z are alike: the lowest", x.worst(false, 0), 0);
        Check.due("then the other", x.worst(false, 1), 25);
    }

    /** Promise 19, with as many joins as can be told apart in one object, and with all letters. */
    private static void worstOfEveryPart() {
        for (int first = 0; first < 26; first++) {
            PracticeSheets x = new PracticeSheets();
            char one = (char) ('a' + first);
            for (char other = 'z'; other >= 'a'; other--) {
                Check.write(x, one + "!-" + other + "!");
            }
            Check.due("26 letters", x.worst(false, 25) >= 0);
            Check.due("no more letters", x.worst(false, 26), Check.NONE);
            Check.due("the one that was always written is the worst", x.worst(false, 0), first);
            for (int other = 0; other < 26; other++) {
                Check.due("join of rank " + other, x.worst(true, other), 26 * first + other);
            }
            Check.due("no more joins", x.worst(true, 26), Check.NONE);
        }
    }

    /** Promise 20: "with a need above 0 that no word of the list has". */
    private static void missing() {
        PracticeSheets x = new PracticeSheets();
        Check.due("no needs", x.missing(false) + x.missing(true), 0);
        Check.write(x, "a-a!");
        Check.due("a", x.missing(false), 1);
        Check.due("aa", x.missing(true), 1);
        Check.add(x, "a");
        Check.due("a word has a", x.missing(false), 0);
        Check.due("no word has aa", x.missing(true), 1);
        Check.add(x, "baab");
        Check.due("a word has aa", x.missing(true), 0);
        x.removeWord(0);
        Check.due("the other word has a, too", x.missing(false), 0);
        x.removeWord(0);
        Check.due("a again", x.missing(false), 1);
        Check.due("aa again", x.missing(true), 1);
        x.pass(2);
        Check.due("no need is left", x.missing(false) + x.missing(true), 0);
        PracticeSheets y = new PracticeSheets();
        Check.write(y, "a!-b!-c!-d!-e!-f!-g!-h!-i!-j!-k!-l!-m!-n!-o!");
        Check.write(y, "p!-q!-r!-s!-t!-u!-v!-w!-x!-y!-z!");
        Check.due("all letters", y.missing(false), 26);
        Check.due("joins", y.missing(true), 24);
        Check.add(y, "zyxwvutsrqponml,kjihgfedcba");
        Check.due("no letters", y.missing(false), 0);
        Check.due("the joins are other ones", y.missing(true), 24);
    }

    /** Promise 21: "lines: 1 to 10", "need: 0 to 99"; no sheet is done if none has to be. */
    private static void sheetsTo() {
        PracticeSheets x = new PracticeSheets();
        for (int i = 0; i < 2; i++) {
            for (int lines : new int[] {0, -1, 11, MIN, MAX}) {
                Check.due("sheetsTo(" + lines + ", 0)", x.sheetsTo(lines, 0), Check.BAD);
                Check.due("sheetsTo(" + lines + ", 99)", x.sheetsTo(lines, 99), Check.BAD);
            }
            for (int need : new int[] {-1, 100, MIN, MAX}) {
                Check.due("sheetsTo(1, " + need + ")", x.sheetsTo(1, need), Check.BAD);
                Check.due("sheetsTo(10, " + need + ")", x.sheetsTo(10, need), Check.BAD);
            }
            Check.add(x, "ab,b");
        }
        Check.due("words without a need", x.sheetsTo(1, 0), 0);
        Check.write(x, "c!");
        Check.due("a need that no word has", x.sheetsTo(10, 0), 0);
        Check.write(x, "b!");
        Check.due("33 is not above 33", x.sheetsTo(1, 33), 0);
        Check.due("33 is above 32", x.sheetsTo(1, 32), 1);
        Check.due("99 is above all", x.sheetsTo(10, 99), 0);
        x.removeWord(0);
        x.removeWord(0);
        Check.due("no words", x.sheetsTo(1, 0), 0);
        PracticeSheets y = new PracticeSheets();
        Check.write(y, "a-b");
        Check.add(y, "a,b,ab");
        Check.due("a join is above 32, too", y.sheetsTo(1, 32), 1);
        Check.due("and not above 33", y.sheetsTo(1, 33), 0);
    }

    /** Promise 21: "Returns how many, up to 20; .. NONE if 20 do not do it". */
    private static void sheetsToTwenty() {
        PracticeSheets x = new PracticeSheets();
        Check.write(x, "a!");
        Check.add(x, "a");
        Check.due("4: 100 / 23 behind 18", x.sheetsTo(1, 4), 18);
        Check.due("3: 100 / 26 behind 23", x.sheetsTo(1, 3), Check.NONE);
        PracticeSheets y = new PracticeSheets();
        Check.write(y, "a!a");
        Check.write(y, "aa");
        Check.add(y, "a");
        Check.due("3: 100 / 26 behind 20", y.sheetsTo(1, 3), 20);
        PracticeSheets z = new PracticeSheets();
        Check.write(z, "a!aa");
        Check.add(z, "a");
        Check.due("3: 100 / 26 behind 21", z.sheetsTo(1, 3), Check.NONE);
        Check.due("nothing was done", z.letter('a', 0), 3);
        z.doSheet(1);
        Check.due("one sheet ahead: 20", z.sheetsTo(1, 3), 20);
        Check.due("0 is far", z.sheetsTo(1, 0), Check.NONE);
        Check.due("10 lines are no more than one word", z.sheetsTo(10, 3), 20);
    }

    /** Promise 22: "Returns the number; BAD_VALUE." */
    private static void count() {
        PracticeSheets x = new PracticeSheets();
        for (int what : new int[] {-1, -2, 12, 13, MIN, MAX}) {
            Check.due("count(" + what + ")", x.count(what), Check.BAD);
        }
        Check.write(x, "a!-b!-c");
        Check.add(x, "ab,xyz,c");
        x.setUntried(3);
        x.doSheet(2);
        // ab gains 99, xyz 15, c nothing; then a, b, ab: 1 of 2, 25; bc: 1 of 1, 33; xy and yz are tried, too
        int[] done = {3, 0, 3, 20, 4, 25, 33, 3, 4, 1, 4, 8};
        for (int what = 0; what < done.length; what++) {
            Check.due("count(" + what + ")", x.count(what), done[what]);
        }
        x.pass(1);
        int[] passed = {3, 1, 3, 24, 1, 0, 0, 3, 4, 1, 4, 8};
        for (int what = 0; what < passed.length; what++) {
            Check.due("count(" + what + ") behind a week", x.count(what), passed[what]);
        }
        x.undo();
        x.undo();
        Check.due("sheets are undone", x.count(9), 0);
        Check.due("words written are undone", x.count(7), 1);
        Check.due("slips are not", x.count(8), 4);
    }

    /** Promise 22, with the most that there can be. */
    private static void countToTheMost() {
        PracticeSheets x = new PracticeSheets();
        Check.write(x, "abcdefghijklmno");
        Check.write(x, "pqrstuvwxyz");
        Check.due("no letter is untried", x.count(3), 0);
        Check.due("joins", x.count(4), 24);
        for (char one = 'a'; one <= 'z'; one++) {
            PracticeSheets y = new PracticeSheets();
            for (char other = 'a'; other <= 'z'; other++) {
                Check.write(y, "" + one + other);
            }
            Check.due("joins of " + one, y.count(4), 26);
            Check.due("letters", y.count(3), 0);
        }
        Check.add(x, TWENTY);
        Check.due("words", x.count(0), 20);
        x.setUntried(99);
        Check.due("setting", x.count(2), 99);
        x.setUntried(0);
        Check.due("setting", x.count(2), 0);
        Check.text(x, "aaaaaaaaaaaaaaaaaaaaaaaaaaaaaaaaaaaaaaaaaaaaaaaaaaaaaaaaaaaa");
        Check.due("text", x.count(11), 60);
        Check.due("history", x.count(10), 4);
    }
}
