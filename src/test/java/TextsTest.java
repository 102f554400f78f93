/** The sentences of Terms on words, texts and their faults that name an edge, each with a test of its own. */
public final class TextsTest {
    private static final String TWENTY = "a,b,c,d,e,f,g,h,i,j,k,l,m,n,o,p,q,r,s,t";

    public static void main(String[] args) {
        atMost20Words();
        numberedFrom0();
        wordsOfOneAndOf15Letters();
        wordsAreUnlike();
        laterOnesHaveOneLess();
        partsCountOnce();
        needsOfPartsAreAdded();
        atMost60Characters();
        emptyAtFirst();
        lettersOfAWrittenWord();
        marksBehindALetter();
        marksOfJoins();
        notBehindThe15th();
        wordsWithCommas();
        faultsAtFirstAndAtLast();
        endsTooEarly();
        eachCharacterAtEachPlace();
        Check.end();
    }

    private static void written(String text, int due) {
        PracticeSheets x = new PracticeSheets();
        Check.due("write of \"" + text + "\"", Check.write(x, text), due);
        Check.due("is it recorded", x.count(10), due < 0 ? 0 : 1);
    }

    private static void added(String text, int due) {
        PracticeSheets x = new PracticeSheets();
        Check.due("addWords of \"" + text + "\"", Check.add(x, text), due);
        Check.due("is it recorded", x.count(10), due < 0 ? 0 : 1);
        Check.due("words on the list", x.count(0), Math.max(due, 0));
    }

    /** "There is a list of at most 20 words". */
    private static void atMost20Words() {
        PracticeSheets x = new PracticeSheets();
        Check.due("empty at first", x.count(0), 0);
        Check.due("20", Check.add(x, TWENTY), 20);
        Check.due("one more", Check.add(x, "u"), Check.FULL);
        Check.due("20 still", x.count(0), 20);
        PracticeSheets y = new PracticeSheets();
        for (char word = 'a'; word <= 't'; word++) {
            Check.due("one by one", Check.add(y, "" + word), 1);
        }
        Check.due("the 21st", Check.add(y, "u"), Check.FULL);
        Check.due("the 21st behind one of the list", Check.add(y, "t,u"), Check.FULL);
    }

    /** "numbered from 0". */
    private static void numberedFrom0() {
        PracticeSheets x = new PracticeSheets();
        Check.due("no word 0", x.word(0, 0), Check.UNKNOWN);
        Check.add(x, TWENTY);
        for (int word = 0; word < 20; word++) {
            Check.due("word " + word, x.letterOf(word, 0), word);
        }
        Check.due("word 20", x.letterOf(20, 0), Check.UNKNOWN);
        Check.due("word -1", x.letterOf(-1, 0), Check.UNKNOWN);
    }

    /** "each of 1 to 15 letters". */
    private static void wordsOfOneAndOf15Letters() {
        added("a", 1);
        added("abcdefghijklmno", 1);
        added("abcdefghijklmnop", -115);
        added("", -100);
        added("a,abcdefghijklmno,b", 3);
        added("a,abcdefghijklmnop,b", -117);
        PracticeSheets x = new PracticeSheets();
        Check.add(x, "abcdefghijklmno,z");
        Check.due("letters of the longest", x.word(0, 0), 15);
        Check.same("the longest", Check.spelled(x, 0), "abcdefghijklmno");
        Check.due("letters of the shortest", x.word(1, 0), 1);
    }

    /** "all unlike". */
    private static void wordsAreUnlike() {
        PracticeSheets x = new PracticeSheets();
        Check.due("one is told three times", Check.add(x, "ab,ab,ab"), 1);
        Check.due("it is on the list", Check.add(x, "ab"), Check.NONE);
        Check.due("a beginning is another word", Check.add(x, "a"), 1);
        Check.due("so is a longer one", Check.add(x, "abc"), 1);
        Check.due("so is one with the same letters", Check.add(x, "ba"), 1);
        Check.due("so is one with another last letter", Check.add(x, "abd,ac"), 2);
        Check.same("list", Check.list(x), "ab a abc ba abd ac");
        PracticeSheets y = new PracticeSheets();
        Check.due("15 letters", Check.add(y, "aaaaaaaaaaaaaaa,aaaaaaaaaaaaaab,baaaaaaaaaaaaaa"), 3);
        Check.due("none is new", y.addWords(), Check.NONE);
    }

    /** "When a word is removed, later ones have one number less." */
    private static void laterOnesHaveOneLess() {
        PracticeSheets x = new PracticeSheets();
        Check.add(x, TWENTY);
        Check.due("the first of 20", x.removeWord(0), 19);
        Check.same("list", Check.list(x), "b c d e f g h i j k l m n o p q r s t");
        Check.due("no word 19", x.word(19, 0), Check.UNKNOWN);
        Check.due("room for one", Check.add(x, "zz"), 1);
        Check.same("the new one is the last", Check.spelled(x, 19), "zz");
        Check.due("the last of 20", x.removeWord(19), 19);
        Check.due("one ahead of the last", x.removeWord(17), 18);
        Check.same("list", Check.list(x), "b c d e f g h i j k l m n o p q r t");
        for (int left = 17; left >= 0; left--) {
            Check.due("the first of " + (left + 1), x.removeWord(0), left);
        }
        Check.due("of an empty list", x.removeWord(0), Check.UNKNOWN);
        Check.due("all may come again", Check.add(x, TWENTY), 20);
    }

    /** "The parts of a word are its letters and its joins, each once, however often it has them." */
    private static void partsCountOnce() {
        String[] words = {"a", "aa", "aaa", "aaaaaaaaaaaaaaa", "ab", "aba", "abab", "abcdefghijklmno", "abcabc",
            "abababababababa", "aabb"};
        int[] parts = {1, 2, 2, 2, 3, 4, 4, 29, 6, 4, 5};
        for (int i = 0; i < words.length; i++) {
            PracticeSheets x = new PracticeSheets();
            Check.add(x, words[i]);
            Check.due("parts of " + words[i], x.word(0, 2), parts[i]);
            Check.due("untried of " + words[i], x.word(0, 3), parts[i]);
            Check.due("gain of " + words[i], x.word(0, 4), 5 * parts[i]);
            Check.due("words with its first letter", x.letter(words[i].charAt(0), 3), 1);
        }
    }

    /** "The need of a word is the sum of the needs of its parts." */
    private static void needsOfPartsAreAdded() {
        PracticeSheets x = new PracticeSheets();
        Check.write(x, "a!-b!");
        Check.add(x, "a,b,ab,ba,abababababababa,c");
        // 33 each of a, b and ab
        int[] needs = {33, 33, 99, 66, 99, 0};
        for (int word = 0; word < needs.length; word++) {
            Check.due("need of word " + word, x.word(word, 1), needs[word]);
        }
        PracticeSheets y = new PracticeSheets();
        Check.text(y, "a!-b!-c!-d!-e!-f!-g!-h!-i!-j!-k!-l!-m!-n!-o!");
        for (int i = 0; i < 198; i++) {
            y.write();
        }
        Check.add(y, "abcdefghijklmno");
        Check.due("the greatest that there is", y.word(0, 1), 29 * 99);
        Check.due("its gain, too", y.word(0, 4), 29 * 99);
        Check.due("the need of a sheet with it", y.covers(1, 3), 29 * 99);
    }

    /** "There is a text of at most 60 characters". */
    private static void atMost60Characters() {
        PracticeSheets x = new PracticeSheets();
        for (int i = 1; i <= 60; i++) {
            Check.due("character " + i, x.type('a'), i);
        }
        Check.due("character 61", x.type('a'), Check.FULL);
        Check.due("character 61, of any kind", x.type((char) 65535), Check.FULL);
        Check.due("60 still", x.count(11), 60);
        Check.due("60 letters are too many", x.write(), -115);
        Check.due("as words, too", x.addWords(), -115);
        Check.due("cleared", x.clearText(), 60);
        Check.due("room again", x.type('a'), 1);
        String text = "abcdefghijklmno,bbcdefghijklmno,cbcdefghijklmno,dbcdefghijkl";
        Check.due("60 of words", text.length(), 60);
        added(text, 4);
        added(text.substring(0, 59) + ",", -160);
        added(text.substring(0, 59) + "!", -159);
        written("a!-a!-a!-a!-a!-a!-a!-a!-a!-a!-a!-a!-a!-a!-a!" + "!!!!!!!!!!!!!!!!", -144);
    }

    /** "empty at first". */
    private static void emptyAtFirst() {
        PracticeSheets x = new PracticeSheets();
        Check.due("length", x.count(11), 0);
        Check.due("to clear", x.clearText(), 0);
        Check.due("as a written word", x.write(), -100);
        Check.due("as words", x.addWords(), -100);
    }

    /** "A text of a written word is 1 to 15 letters from a to z". */
    private static void lettersOfAWrittenWord() {
        written("a", 0);
        written("z", 0);
        written("az", 0);
        written("abcdefghijklmno", 0);
        written("lmnopqrstuvwxyz", 0);
        written("abcdefghijklmnop", -115);
        written("`", -100);
        written("{", -100);
        written("A", -100);
        written("Z", -100);
        written("aZ", -101);
        written("a a", -101);
        written("a,a", -101);
        written("a\u0000", -101);
        written("a\u00e4", -101);
        written("a\u0161", -101);
        written("a\uffff", -101);
        written("a!b!c!d!e!f!g!h!i!j!k!l!m!n!o!", 15);
        written("a!b!c!d!e!f!g!h!i!j!k!l!m!n!o!p!", -130);
    }

    /** "behind a letter there may be '!' (the letter is marked)". */
    private static void marksBehindALetter() {
        written("a!", 1);
        written("!", -100);
        written("!a", -100);
        written("a!!", -102);
        written("a!b!", 2);
        written("ab!!", -103);
        written("a-!", -102);
        written("a!-!", -103);
        written("aaaaaaaaaaaaaaa!", 1);
        written("aaaaaaaaaaaaaaa!!", -116);
    }

    /** "and then, ahead of another letter, '-' (the join of both is marked ..)". */
    private static void marksOfJoins() {
        written("a-b", 1);
        written("a!-b", 2);
        written("a-b!", 2);
        written("a-a", 1);
        written("-", -100);
        written("-a", -100);
        written("a--b", -102);
        written("a-!b", -102);
        written("a!--b", -103);
        written("a-,", -102);
        written("a-A", -102);
        written("a-b-", -104);
        written("a-b-c", 2);
    }

    /** ".. behind the 15th letter it is not allowed". */
    private static void notBehindThe15th() {
        written("aaaaaaaaaaaaaa-a", 1);
        written("aaaaaaaaaaaaaa-", -115);
        written("aaaaaaaaaaaaaa!-", -116);
        written("aaaaaaaaaaaaaaa-", -115);
        written("aaaaaaaaaaaaaaa-a", -115);
        written("aaaaaaaaaaaaaaa!-", -116);
        written("aaaaaaaaaaaaaaa!-a", -116);
        written("aaaaaaaaaaaaaaa!a", -116);
        written("a!-a!-a!-a!-a!-a!-a!-a!-a!-a!-a!-a!-a!-a!-a!-", -144);
    }

    /** "A text of words is one or more words (1 to 15 letters each) with ',' between two." */
    private static void wordsWithCommas() {
        added("a", 1);
        added("a,b", 2);
        added("z,a", 2);
        added(",", -100);
        added(",a", -100);
        added("a,,b", -102);
        added("a,b,", -104);
        added("ab!", -102);
        added("a-b", -101);
        added("a, b", -102);
        added("A", -100);
        added("`", -100);
        added("{", -100);
        added("a,B", -102);
        added("a;b", -101);
        added("aaaaaaaaaaaaaaa,b", 2);
        added("aaaaaaaaaaaaaaaa,b", -115);
        added("b,aaaaaaaaaaaaaaa", 2);
        added("b,aaaaaaaaaaaaaaaa", -117);
        added("a\u00e4", -101);
        added("a\u0000", -101);
        added("a\uffff", -101);
    }

    /** "The fault of the text .. is the index, from 0, of the first character that is not allowed at its place". */
    private static void faultsAtFirstAndAtLast() {
        written("?b?", -100);
        written("ab?", -102);
        written("a?b?", -101);
        added("?b?", -100);
        added("ab?", -102);
        added("a?b?", -101);
        StringBuilder text = new StringBuilder("a!-b!-c!-d!-e!-f!-g!-h!-i!-j!-k!-l!-m!-n!-o!");
        for (int i = 0; i < text.length(); i++) {
            String faulty = text.substring(0, i) + "?" + text.substring(i + 1);
            written(faulty, -100 - i);
        }
        String words = "abcdefghijklmno,bbcdefghijklmno,cbcdefghijklmno,dbcdefghijkl";
        for (int i = 0; i < words.length(); i++) {
            String faulty = words.substring(0, i) + "?" + words.substring(i + 1);
            added(faulty, -100 - i);
        }
    }

    /** "or the length of the text if it ends too early (the empty text does, and one that ends with '-')". */
    private static void endsTooEarly() {
        written("", -100);
        written("a-", -102);
        written("a!-", -103);
        written("ab!c-", -105);
        added("", -100);
        added("a,", -102);
        added("a,b,", -104);
        added("aaaaaaaaaaaaaaa,", -116);
    }

    /** All of the first 256 characters, and some behind them, at the first place and behind a letter. */
    private static void eachCharacterAtEachPlace() {
        for (int sign = 0; sign < 400; sign++) {
            boolean isLetter = sign >= 97 && sign <= 122;
            String text = "" + (char) sign;
            written(text, isLetter ? 0 : -100);
            added(text, isLetter ? 1 : -100);
            written("a" + text, isLetter ? 0 : sign == '!' ? 1 : sign == '-' ? -102 : -101);
            added("a" + text, isLetter ? 1 : sign == ',' ? -102 : -101);
            written("a-" + text, isLetter ? 1 : -102);
            added("a," + text, isLetter ? sign == 97 ? 1 : 2 : -102);
        }
    }
}
