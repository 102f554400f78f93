/** The sentences of Terms on sheets, their lines and gains that name an edge, each with a test of its own. */
public final class LinesTest {
    private static final String TWENTY = "a,b,c,d,e,f,g,h,i,j,k,l,m,n,o,p,q,r,s,t";

    public static void main(String[] args) {
        oneToTenLines();
        laterLinesChangeNoEarlierOnes();
        noWordTwice();
        greatestGainFirst();
        fewestLettersThen();
        lowestNumberThen();
        numbersBehindARemovedWord();
        partsOfAWordGainOnce();
        halfOfEachPart();
        anyLineAhead();
        untriedPartsCountAsSet();
        untriedPartsHaveNoHalf();
        partsWithoutANeed();
        endsWithoutAWord();
        endsWithoutAGain();
        aGainOf1IsAGain();
        coversEachPartOnce();
        Check.end();
    }

    private static PracticeSheets child(String written, String words, int untried) {
        PracticeSheets x = new PracticeSheets();
        if (!written.isEmpty()) {
            Check.write(x, written);
        }
        Check.add(x, words);
        x.setUntried(untried);
        return x;
    }

    private static void lines(String name, PracticeSheets x, int lines, int[] words, int[] gains) {
        int sum = 0;
        for (int line = 0; line < words.length; line++) {
            Check.due(name + ", word of line " + line, x.sheet(lines, line, 0), words[line]);
            Check.due(name + ", gain of line " + line, x.sheet(lines, line, 1), gains[line]);
            sum += gains[line];
        }
        Check.due(name + ", word behind its lines", x.sheet(lines, words.length, 0), Check.NONE);
        Check.due(name + ", gain behind its lines", x.sheet(lines, words.length, 1), Check.NONE);
        Check.due(name + ", its lines", x.covers(lines, 0), words.length);
        Check.due(name + ", its gains", x.covers(lines, 4), sum);
    }

    /** "A sheet has some lines (1 to 10)." */
    private static void oneToTenLines() {
        PracticeSheets x = new PracticeSheets();
        Check.add(x, TWENTY);
        for (int lines = 1; lines <= 10; lines++) {
            Check.due("lines of " + lines, x.covers(lines, 0), lines);
            Check.due("its last line", x.sheet(lines, lines - 1, 0), lines - 1);
            Check.due("behind its last line", x.sheet(lines, lines, 0), Check.NONE);
        }
        Check.due("no lines", x.covers(0, 0), Check.BAD);
        Check.due("11 lines", x.covers(11, 0), Check.BAD);
    }

    /** "They are chosen one after the other": a longer sheet begins as a shorter one does. */
    private static void laterLinesChangeNoEarlierOnes() {
        PracticeSheets x = child("a!-bb!c-ca!", "abc,ba,cc,bb,ca,b", 5);
        for (int lines = 2; lines <= 10; lines++) {
            for (int line = 0; line < lines - 1; line++) {
                Check.due("word", x.sheet(lines, line, 0), x.sheet(lines - 1, line, 0));
                Check.due("gain", x.sheet(lines, line, 1), x.sheet(lines - 1, line, 1));
            }
        }
    }

    /** "of the words that are not on the sheet yet". */
    private static void noWordTwice() {
        // a: 2 of 2, 50; aa: 1 of 1, 33; both words gain more in their halves than b does
        PracticeSheets x = child("a!-a!", "aa,b", 1);
        lines("aa is not chosen again", x, 10, new int[] {0, 1}, new int[] {83, 1});
        PracticeSheets y = new PracticeSheets();
        Check.add(y, "abc");
        lines("one word, ten lines", y, 10, new int[] {0}, new int[] {25});
    }

    /** "the one with the greatest gain". */
    private static void greatestGainFirst() {
        // z 33, yz 33, y 0
        PracticeSheets x = child("y-z!", "y,z,yz", 0);
        lines("the last word first", x, 3, new int[] {2, 1}, new int[] {66, 16});
        // a longer word with one more is ahead of a shorter one
        PracticeSheets y = child("", "b,abcdefghijklmno", 1);
        lines("the longest word first", y, 2, new int[] {1, 0}, new int[] {29, 1});
    }

    /** "of several the one with the fewest letters". */
    private static void fewestLettersThen() {
        // a 33; b, ab and aba gain nothing more
        PracticeSheets x = child("a!b", "abbb,ab,abb,a,b", 0);
        // 33 for all with a; behind a, the halves: ab of two letters is ahead of those with three and four
        lines("the shortest with a", x, 10, new int[] {3, 1, 2, 0}, new int[] {33, 16, 16, 16});
    }

    /** "of these the lowest number". */
    private static void lowestNumberThen() {
        PracticeSheets x = new PracticeSheets();
        Check.add(x, "t,s,r,q");
        lines("in their order", x, 4, new int[] {0, 1, 2, 3}, new int[] {5, 5, 5, 5});
        PracticeSheets y = child("a!b", "ba,ab,bab,aba", 0);
        lines("fewest letters, then the number", y, 4, new int[] {0, 1, 2, 3}, new int[] {33, 16, 16, 16});
    }

    /** The same, where numbers became less. */
    private static void numbersBehindARemovedWord() {
        PracticeSheets x = new PracticeSheets();
        Check.add(x, "t,s,r,q");
        x.removeWord(0);
        lines("of those that are left", x, 4, new int[] {0, 1, 2}, new int[] {5, 5, 5});
        Check.add(x, "t");
        lines("t is the last", x, 4, new int[] {0, 1, 2, 3}, new int[] {5, 5, 5, 5});
    }

    /** "the sum of the needs of those of its parts ..": a part that stands twice in a word counts once. */
    private static void partsOfAWordGainOnce() {
        PracticeSheets x = child("a!-a", "aaaaaaaaaaaaaaa", 9);
        // a: 1 of 2, 25; aa: 1 of 1, 33
        lines("a and aa", x, 1, new int[] {0}, new int[] {58});
        PracticeSheets y = child("", "abababab", 9);
        lines("a, b, ab, ba untried", y, 1, new int[] {0}, new int[] {36});
    }

    /** "half of the need (rounded down) of each part that any line has already": each is rounded by itself. */
    private static void halfOfEachPart() {
        // a, b, ab: 33 each; their halves are 16, not 49 together
        PracticeSheets x = child("a!-b!", "abc,ab", 1);
        // abc: 99 and c, bc untried
        lines("three halves", x, 2, new int[] {0, 1}, new int[] {101, 48});
        // the half of 25 is 12, that of 50 is 25
        PracticeSheets y = child("a!a", "aa,a", 0);
        lines("12 of 25", y, 2, new int[] {1, 0}, new int[] {25, 12});
        PracticeSheets z = child("a!a!", "aa,a", 0);
        lines("25 of 50", z, 2, new int[] {1, 0}, new int[] {50, 25});
    }

    /** The same: any line, not the last one alone; and a half stays a half, with however many lines. */
    private static void anyLineAhead() {
        // a: 2 of 2, 50; b: 1 of 1, 33
        PracticeSheets x = child("a!", "a,b,aaa,aa,aaaa", 0);
        Check.write(x, "a!");
        Check.write(x, "b!");
        // a, then b, then the halves of a, which is two lines ahead and more
        lines("b is between", x, 10, new int[] {0, 1, 3, 2, 4}, new int[] {50, 33, 25, 25, 25});
    }

    /** "a part that is untried counts as the setting tells (0 to 99; at first 5) in the place of its need". */
    private static void untriedPartsCountAsSet() {
        PracticeSheets x = new PracticeSheets();
        Check.add(x, "a,bc");
        lines("at first", x, 2, new int[] {1, 0}, new int[] {15, 5});
        x.setUntried(1);
        lines("as 1", x, 2, new int[] {1, 0}, new int[] {3, 1});
        x.setUntried(99);
        lines("as 99", x, 2, new int[] {1, 0}, new int[] {297, 99});
        x.setUntried(0);
        lines("as 0", x, 2, new int[0], new int[0]);
        PracticeSheets y = child("", "abcdefghijklmno", 99);
        lines("the greatest of all", y, 1, new int[] {0}, new int[] {29 * 99});
        Check.due("without a need", y.covers(1, 3), 0);
    }

    /** ".. whether a line has it already or not". */
    private static void untriedPartsHaveNoHalf() {
        PracticeSheets x = child("", "a,aa,aaa", 99);
        lines("a and aa in full", x, 3, new int[] {1, 2, 0}, new int[] {198, 198, 99});
        // a is tried and has a need of 33, aa is untried
        PracticeSheets y = child("a!", "aaa,aa,a", 7);
        lines("aa in full, a half", y, 3, new int[] {1, 0, 2}, new int[] {40, 23, 16});
    }

    /** "the sum of the needs": a part that is tried and has a need of 0 gains nothing, not even as untried. */
    private static void partsWithoutANeed() {
        PracticeSheets x = child("a", "a,b", 9);
        lines("a is tried", x, 10, new int[] {1}, new int[] {9});
        x.pass(1);
        lines("a is untried again", x, 10, new int[] {0, 1}, new int[] {9, 9});
    }

    /** "A sheet ends, with fewer lines, if there is no word left". */
    private static void endsWithoutAWord() {
        PracticeSheets x = new PracticeSheets();
        lines("an empty list", x, 10, new int[0], new int[0]);
        lines("an empty list, one line", x, 1, new int[0], new int[0]);
        Check.add(x, "a,b,c,d,e,f,g,h,i");
        for (int words = 9; words >= 0; words--) {
            Check.due("lines of " + words + " words", x.covers(10, 0), words);
            x.removeWord(0);
        }
    }

    /** "or no word has a gain above 0". */
    private static void endsWithoutAGain() {
        PracticeSheets x = child("a!b", "b,a,bb", 0);
        lines("b and bb gain 0", x, 10, new int[] {1}, new int[] {33});
        PracticeSheets y = child("ab", "b,a,ab", 99);
        lines("all is tried well", y, 10, new int[0], new int[0]);
        Check.due("nothing to do", y.doSheet(10), Check.NONE);
    }

    /** The same: a gain of 1 is above 0; its half, rounded down, is not. */
    private static void aGainOf1IsAGain() {
        PracticeSheets x = child("a!aaaaaaaaaaaaaa", "a,aa", 0);
        Check.text(x, "aaaaaaaaaaaaaaa");
        x.write();
        x.write();
        x.write();
        Check.due("need: 100 / 62", x.letter('a', 2), 1);
        lines("a alone", x, 10, new int[] {0}, new int[] {1});
        PracticeSheets y = child("a!aaaaaaaaaaaaaa", "a,aa", 0);
        Check.text(y, "aaaaaaaaaaaaaaa");
        y.write();
        y.write();
        Check.due("need: 100 / 47", y.letter('a', 2), 2);
        lines("half of 2", y, 10, new int[] {0, 1}, new int[] {2, 1});
        PracticeSheets z = child("", "a", 1);
        lines("an untried part", z, 10, new int[] {0}, new int[] {1});
    }

    /** "A sheet is covered: the parts that any of its lines has." */
    private static void coversEachPartOnce() {
        PracticeSheets x = new PracticeSheets();
        Check.write(x, "a!-b!");
        Check.add(x, "ab,ba,abab,z,zz");
        Check.due("letters of all", x.covers(10, 1), 3);
        Check.due("joins of all", x.covers(10, 2), 3);
        Check.due("needs of all, each once", x.covers(10, 3), 99);
        PracticeSheets y = new PracticeSheets();
        Check.add(y, "abcdefghijklmno,pqrstuvwxyz");
        Check.due("all letters", y.covers(2, 1), 26);
        Check.due("joins", y.covers(2, 2), 24);
        Check.due("letters of one line", y.covers(1, 1), 15);
        Check.due("joins of one line", y.covers(1, 2), 14);
        Check.add(y, "aaa,zzz");
        Check.due("aa and zz are joins", y.covers(4, 2), 26);
        Check.due("letters are as many", y.covers(4, 1), 26);
    }
}
