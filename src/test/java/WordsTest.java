/** Promises 5, 6, 15 and 16: words that come and go, what is told of a word, its letters. */
public final class WordsTest {
    private static final String ONE_TO_TWENTY = "a,b,c,d,e,f,g,h,i,j,k,l,m,n,o,p,q,r,s,t";

    public static void main(String[] args) {
        adding();
        faultsOfWords();
        fullList();
        removing();
        removedWordsAreGone();
        tellingOfWords();
        shorterWordsHaveNoMore();
        lettersOfWords();
        Check.end();
    }

    private static void adding() {
        PracticeSheets x = new PracticeSheets();
        Check.due("three words", Check.add(x, "ba,b,ab"), 3);
        Check.same("list", Check.list(x), "ba b ab");
        Check.due("the text stays", x.count(11), 7);
        Check.due("all are on it", x.addWords(), Check.NONE);
        Check.due("NONE is not recorded", x.count(10), 1);
        Check.due("some are on it, one comes twice", Check.add(x, "b,zz,ab,a,zz,bab"), 3);
        Check.same("list", Check.list(x), "ba b ab zz a bab");
        Check.due("15 letters", Check.add(x, "abcdefghijklmno,abcdefghijklmnp,abcdefghijklmn"), 3);
        Check.same("last", Check.spelled(x, 8), "abcdefghijklmn");
        Check.due("states", x.count(10), 3);
        Check.due("words are not written", x.letter('a', 0), 0);
    }

    private static void faultsOfWords() {
        String[] texts = {"", ",", ",a", "a,", "a,,b", "A", "a!", "a,b!", "a-b", "ab,c-", "a, b", "aaaaaaaaaaaaaaaa",
            "aaaaaaaaaaaaaaa,", "a,aaaaaaaaaaaaaaaa", "a,`", "a{", "a\u0161", "aaaaaaaaaaaaaaa,,"};
        int[] faults = {0, 0, 0, 2, 2, 0, 1, 3, 1, 4, 2, 15,
            16, 17, 2, 1, 1, 16};
        PracticeSheets x = new PracticeSheets();
        for (int i = 0; i < texts.length; i++) {
            Check.due("addWords of \"" + texts[i] + "\"", Check.add(x, texts[i]), -100 - faults[i]);
        }
        Check.due("nothing was added", x.count(0), 0);
        Check.due("nothing is recorded", x.count(10), 0);
    }

    private static void fullList() {
        PracticeSheets x = new PracticeSheets();
        Check.due("21 words at once", Check.add(x, ONE_TO_TWENTY + ",u"), Check.FULL);
        Check.due("changes nothing", x.count(0), 0);
        Check.due("is not recorded", x.count(10), 0);
        Check.due("20 words at once", Check.add(x, ONE_TO_TWENTY), 20);
        Check.due("none of 20", x.addWords(), Check.NONE);
        Check.due("the 21st", Check.add(x, "u"), Check.FULL);
        Check.due("the 21st behind one that is on it", Check.add(x, "a,u"), Check.FULL);
        Check.due("the 21st ahead of one that is on it", Check.add(x, "u,a"), Check.FULL);
        Check.due("a fault comes first", Check.add(x, "u,"), -102);
        Check.due("one that is on it", Check.add(x, "t"), Check.NONE);
        Check.due("removed", x.removeWord(19), 19);
        Check.due("two are too many", Check.add(x, "u,v"), Check.FULL);
        Check.due("none of the two came", x.count(0), 19);
        Check.due("one, told twice", Check.add(x, "u,u,a"), 1);
        Check.due("20 again", x.count(0), 20);
    }

    private static void removing() {
        PracticeSheets x = new PracticeSheets();
        Check.due("of an empty list", x.removeWord(0), Check.UNKNOWN);
        Check.add(x, "a,bb,ccc,dddd");
        Check.due("-1", x.removeWord(-1), Check.UNKNOWN);
        Check.due("4", x.removeWord(4), Check.UNKNOWN);
        Check.due("min", x.removeWord(Integer.MIN_VALUE), Check.UNKNOWN);
        Check.due("max", x.removeWord(Integer.MAX_VALUE), Check.UNKNOWN);
        Check.due("states", x.count(10), 1);
        Check.due("in the middle", x.removeWord(1), 3);
        Check.same("list", Check.list(x), "a ccc dddd");
        Check.due("states", x.count(10), 2);
        Check.due("the last", x.removeWord(2), 2);
        Check.same("list", Check.list(x), "a ccc");
        Check.due("the first", x.removeWord(0), 1);
        Check.same("list", Check.list(x), "ccc");
        Check.due("it is not on the list", Check.add(x, "a,bb,ccc"), 2);
        Check.same("list", Check.list(x), "ccc a bb");
        Check.due("ccc has no a", x.letter('a', 3), 1);
    }

    private static void removedWordsAreGone() {
        PracticeSheets x = new PracticeSheets();
        Check.write(x, "b!");
        Check.add(x, "a,b");
        x.removeWord(1);
        Check.due("no word has b", x.letter('b', 3), 0);
        Check.due("b is missing", x.missing(false), 1);
        Check.due("b is on no line", x.covers(10, 0), 1);
        Check.due("b gains nothing", x.sheet(10, 0, 1), 5);
        Check.due("b needs no sheet", x.sheetsTo(1, 0), 0);
        Check.due("b is not written", x.doSheet(10), 1);
        Check.due("b has its one try", x.letter('b', 0), 1);
        Check.due("no word to remove", x.removeWord(1), Check.UNKNOWN);
        Check.due("no word to tell", x.word(1, 0), Check.UNKNOWN);
        Check.due("no letter to tell", x.letterOf(1, 0), Check.UNKNOWN);
    }

    /** A word that comes behind a longer one has nothing of it. */
    private static void shorterWordsHaveNoMore() {
        PracticeSheets x = new PracticeSheets();
        Check.write(x, "a!-b!-c!");
        Check.add(x, "abc,d,ba");
        x.removeWord(0);
        Check.due("parts of d", x.word(0, 2), 1);
        Check.due("need of d", x.word(0, 1), 0);
        Check.due("untried of d", x.word(0, 3), 1);
        Check.due("gain of d", x.word(0, 4), 5);
        Check.due("parts of ba", x.word(1, 2), 3);
        Check.due("need of ba", x.word(1, 1), 66);
        Check.due("untried of ba", x.word(1, 3), 1);
        x.removeWord(1);
        Check.due("letters that d covers", x.covers(1, 1), 1);
        Check.due("joins that d covers", x.covers(1, 2), 0);
        Check.due("needs that d covers", x.covers(1, 3), 0);
        Check.due("d needs no sheet", x.sheetsTo(1, 0), 0);
        Check.add(x, "xyz,q");
        Check.due("untried of q", x.word(2, 3), 1);
    }

    private static void tellingOfWords() {
        PracticeSheets x = new PracticeSheets();
        Check.write(x, "a!b-b");
        Check.add(x, "abba,bbb,q");
        // needs: a 33, bb 33, b 0, ab 0; ba is untried
        Check.due("letters", x.word(0, 0), 4);
        Check.due("need", x.word(0, 1), 66);
        Check.due("parts a, b, ab, bb, ba", x.word(0, 2), 5);
        Check.due("untried", x.word(0, 3), 1);
        Check.due("gain", x.word(0, 4), 71);
        Check.due("letters", x.word(1, 0), 3);
        Check.due("need", x.word(1, 1), 33);
        Check.due("parts b, bb", x.word(1, 2), 2);
        Check.due("untried", x.word(1, 3), 0);
        Check.due("gain", x.word(1, 4), 33);
        Check.due("q: parts", x.word(2, 2), 1);
        Check.due("q: need", x.word(2, 1), 0);
        Check.due("q: untried", x.word(2, 3), 1);
        Check.due("q: gain", x.word(2, 4), 5);
        x.covers(3, 0);
        Check.due("a sheet before does not change the gain", x.word(0, 4), 71);
        Check.due("15 letters", Check.add(x, "abcdefghijklmno"), 1);
        Check.due("29 parts", x.word(3, 2), 29);
        Check.due("what -1", x.word(0, -1), Check.BAD);
        Check.due("what 5", x.word(0, 5), Check.BAD);
        Check.due("word -1", x.word(-1, 0), Check.UNKNOWN);
        Check.due("word 4", x.word(4, 0), Check.UNKNOWN);
        Check.due("word 4, what 5", x.word(4, 5), Check.UNKNOWN);
        Check.due("word max", x.word(Integer.MAX_VALUE, 0), Check.UNKNOWN);
    }

    private static void lettersOfWords() {
        PracticeSheets x = new PracticeSheets();
        Check.add(x, "az,abcdefghijklmno");
        Check.due("a", x.letterOf(0, 0), 0);
        Check.due("z", x.letterOf(0, 1), 25);
        Check.due("behind its end", x.letterOf(0, 2), Check.NONE);
        Check.due("far behind its end", x.letterOf(0, Integer.MAX_VALUE), Check.NONE);
        Check.due("o", x.letterOf(1, 14), 14);
        Check.due("behind 15", x.letterOf(1, 15), Check.NONE);
        Check.due("-1", x.letterOf(0, -1), Check.BAD);
        Check.due("min", x.letterOf(0, Integer.MIN_VALUE), Check.BAD);
        Check.due("no word", x.letterOf(2, 0), Check.UNKNOWN);
        Check.due("no word, index -1", x.letterOf(2, -1), Check.UNKNOWN);
        Check.due("word -1", x.letterOf(-1, 0), Check.UNKNOWN);
    }
}
