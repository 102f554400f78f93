/** Promises 7, 17, 18 and 21: sheets that are told, covered, done, and done one after the other. */
public final class SheetsTest {
    public static void main(String[] args) {
        linesAreChosen();
        tiesAreBroken();
        untriedPartsCountInFull();
        sheetsEnd();
        wrongArguments();
        sheetsAreDone();
        sheetsToANeed();
        sheetsToNeverEnough();
        Check.end();
    }

    /** Needs: a 60, b 33, ab 33, ba 25; c, bc and cb 0. */
    private static PracticeSheets child() {
        PracticeSheets x = new PracticeSheets();
        Check.write(x, "a!-ba!-ba!-bcb");
        x.clearText();
        return x;
    }

    private static void lines(String name, PracticeSheets x, int lines, int[] words, int[] gains) {
        for (int line = 0; line < words.length; line++) {
            Check.due(name + ", word of line " + line, x.sheet(lines, line, 0), words[line]);
            Check.due(name + ", gain of line " + line, x.sheet(lines, line, 1), gains[line]);
        }
        Check.due(name + ", behind its lines", x.sheet(lines, words.length, 0), Check.NONE);
        Check.due(name + ", behind its lines", x.sheet(lines, words.length, 1), Check.NONE);
        Check.due(name + ", its lines", x.covers(lines, 0), words.length);
    }

    private static void linesAreChosen() {
        PracticeSheets x = new PracticeSheets();
        // a: 2 slips of 2 tries, 50; b: 0 of 3; ab: 1 of 2, 25; ba: 0 of 1; bb: 1 of 1, 33
        Check.write(x, "a!-ba!b-b");
        Check.add(x, "b,bb,ab,aba");
        // aba: a 50, ab 25; ab the same, with fewer letters; then bb 33, aba 25 + 12
        lines("three lines", x, 3, new int[] {2, 3, 1}, new int[] {75, 37, 33});
        lines("one line", x, 1, new int[] {2}, new int[] {75});
        Check.due("lines", x.covers(3, 0), 3);
        Check.due("letters", x.covers(3, 1), 2);
        Check.due("joins", x.covers(3, 2), 3);
        Check.due("needs", x.covers(3, 3), 108);
        Check.due("gains", x.covers(3, 4), 145);
        Check.due("letters of one", x.covers(1, 1), 2);
        Check.due("joins of one", x.covers(1, 2), 1);
        Check.due("needs of one", x.covers(1, 3), 75);
        Check.due("gains of one", x.covers(1, 4), 75);
        Check.due("telling is no act", x.count(10), 2);
    }

    private static void tiesAreBroken() {
        PracticeSheets x = new PracticeSheets();
        Check.add(x, "cde,ab,ba,a,b");
        lines("untried", x, 10, new int[] {0, 1, 2, 3, 4}, new int[] {25, 15, 15, 5, 5});
        PracticeSheets y = child();
        Check.add(y, "cbc,bc,ac,c,ca");
        y.setUntried(0);
        // a 60, b 0: ac and ca gain 60 each, the lowest number comes first
        lines("the lowest number", y, 10, new int[] {2, 4}, new int[] {60, 30});
        PracticeSheets z = new PracticeSheets();
        Check.write(z, "a!bbaa");
        Check.add(z, "aaa,abb,aab,aa,b,ab");
        z.setUntried(0);
        // a: 1 of 3, 20; the same gain for all with a: of two letters, aa is ahead of ab
        lines("the fewest letters", z, 3, new int[] {3, 5, 0}, new int[] {20, 10, 10});
    }

    private static void untriedPartsCountInFull() {
        PracticeSheets x = new PracticeSheets();
        Check.write(x, "a!");
        x.setUntried(7);
        Check.add(x, "ab,aab");
        // need of a: 33; b and ab are untried, and so is aa; covered ones count 7 still, a counts 16
        lines("untried", x, 2, new int[] {1, 0}, new int[] {54, 30});
        Check.due("needs of untried parts are 0", x.covers(2, 3), 33);
        Check.due("letters", x.covers(2, 1), 2);
        Check.due("joins", x.covers(2, 2), 2);
    }

    private static void sheetsEnd() {
        PracticeSheets x = new PracticeSheets();
        lines("no words", x, 10, new int[0], new int[0]);
        for (int what = 0; what < 5; what++) {
            Check.due("covers nothing", x.covers(10, what), 0);
        }
        Check.write(x, "a!b");
        x.setUntried(0);
        Check.add(x, "b,c,a");
        lines("only one gains", x, 10, new int[] {2}, new int[] {33});
        PracticeSheets y = new PracticeSheets();
        Check.add(y, "a,b,c,d,e,f,g,h,i,j,k,l");
        lines("ten lines", y, 10, new int[] {0, 1, 2, 3, 4, 5, 6, 7, 8, 9}, new int[] {5, 5, 5, 5, 5, 5, 5, 5, 5, 5});
        lines("nine lines", y, 9, new int[] {0, 1, 2, 3, 4, 5, 6, 7, 8}, new int[] {5, 5, 5, 5, 5, 5, 5, 5, 5});
        PracticeSheets z = new PracticeSheets();
        // a: 1 of 49, need 1; half of it is 0, so the second word with it has no gain
        Check.write(z, "a!aaaaaaaaaaaaaa");
        Check.write(z, "aaaaaaaaaaaaaaa");
        z.write();
        Check.write(z, "aaaa");
        z.setUntried(0);
        Check.add(z, "aa,aaa");
        lines("half of 1", z, 10, new int[] {0}, new int[] {1});
    }

    private static void wrongArguments() {
        PracticeSheets x = child();
        Check.add(x, "ab,ba");
        int[] wrong = {0, -1, 11, Integer.MAX_VALUE, Integer.MIN_VALUE};
        for (int lines : wrong) {
            Check.due("sheet lines " + lines, x.sheet(lines, 0, 0), Check.BAD);
            Check.due("covers lines " + lines, x.covers(lines, 0), Check.BAD);
            Check.due("doSheet lines " + lines, x.doSheet(lines), Check.BAD);
            Check.due("sheetsTo lines " + lines, x.sheetsTo(lines, 0), Check.BAD);
        }
        Check.due("line -1", x.sheet(1, -1, 0), Check.BAD);
        Check.due("line min", x.sheet(10, Integer.MIN_VALUE, 0), Check.BAD);
        Check.due("line 10", x.sheet(10, 10, 0), Check.NONE);
        Check.due("line max", x.sheet(10, Integer.MAX_VALUE, 1), Check.NONE);
        Check.due("the line of a longer sheet", x.sheet(1, 1, 0), Check.NONE);
        Check.due("what -1", x.sheet(1, 0, -1), Check.BAD);
        Check.due("what 2", x.sheet(1, 0, 2), Check.BAD);
        Check.due("what 2 behind its lines", x.sheet(1, 9, 2), Check.BAD);
        Check.due("covers what -1", x.covers(1, -1), Check.BAD);
        Check.due("covers what 5", x.covers(10, 5), Check.BAD);
        Check.due("covers what 5 of none", new PracticeSheets().covers(10, 5), Check.BAD);
        Check.due("need -1", x.sheetsTo(1, -1), Check.BAD);
        Check.due("need 100", x.sheetsTo(1, 100), Check.BAD);
        Check.due("nothing is recorded", x.count(10), 2);
    }

    private static void sheetsAreDone() {
        PracticeSheets x = child();
        Check.add(x, "abab,cc,d");
        x.setUntried(0);
        Check.due("two gain: none, as c has no need", x.doSheet(3), 1);
        Check.due("a tries", x.letter('a', 0), 5);
        Check.due("a slips", x.letter('a', 1), 3);
        Check.due("b tries", x.letter('b', 0), 6);
        Check.due("ab tries", x.join('a', 'b', 0), 5);
        Check.due("ba tries", x.join('b', 'a', 0), 3);
        Check.due("cc tries", x.join('c', 'c', 0), 0);
        Check.due("written", x.count(7), 2);
        Check.due("slips", x.count(8), 6);
        Check.due("sheets", x.count(9), 1);
        Check.due("states", x.count(10), 4);
        x.setUntried(5);
        Check.due("all three", x.doSheet(10), 3);
        Check.due("cc tries", x.join('c', 'c', 0), 1);
        Check.due("d tries", x.letter('d', 0), 1);
        Check.due("written", x.count(7), 5);
        Check.due("sheets", x.count(9), 2);
        PracticeSheets y = new PracticeSheets();
        Check.due("no word", y.doSheet(10), Check.NONE);
        Check.add(y, "a");
        y.setUntried(0);
        Check.due("no gain", y.doSheet(10), Check.NONE);
        Check.due("is not recorded", y.count(10), 2);
        Check.due("is not counted", y.count(9), 0);
    }

    private static void sheetsToANeed() {
        PracticeSheets x = new PracticeSheets();
        Check.write(x, "a!");
        Check.due("no word has it", x.sheetsTo(1, 0), 0);
        Check.add(x, "a");
        // need of a behind k sheets: 100 / (3 + k)
        int[] needs = {99, 33, 32, 25, 24, 20, 19, 10, 9, 5};
        int[] due = {0, 0, 1, 1, 2, 2, 3, 7, 8, 14};
        for (int i = 0; i < needs.length; i++) {
            Check.due("sheetsTo(1, " + needs[i] + ")", x.sheetsTo(1, needs[i]), due[i]);
        }
        Check.due("4: 100 / 23", x.sheetsTo(1, 4), 18);
        Check.due("3 is not reached by 20", x.sheetsTo(1, 3), Check.NONE);
        Check.due("no sheet was done", x.count(9), 0);
        Check.due("no try was made", x.letter('a', 0), 1);
        Check.due("no act", x.count(10), 2);
        x.doSheet(1);
        x.doSheet(1);
        Check.due("4 behind two sheets", x.sheetsTo(1, 4), 16);
        Check.due("3 tries, and 20 more do not reach 3", x.sheetsTo(1, 3), Check.NONE);
        x.write();
        Check.due("4 tries, and 20 more reach it", x.sheetsTo(1, 3), 20);
        PracticeSheets y = new PracticeSheets();
        Check.write(y, "a!-b!");
        Check.add(y, "a,b,ab");
        // needs 33 each; ab is the only word with the join, and the longest gain
        Check.due("a line a sheet", y.sheetsTo(1, 25), 1);
        Check.due("one sheet of three lines", y.sheetsTo(3, 25), 1);
        Check.due("the joins count too", y.sheetsTo(3, 20), 2);
        Check.due("one line a sheet", y.sheetsTo(1, 20), 2);
    }

    private static void sheetsToNeverEnough() {
        PracticeSheets x = new PracticeSheets();
        // 30 slips of 30 tries: behind 20 sheets with one line each, 3000 / 52
        Check.write(x, "a!a!a!a!a!a!a!a!a!a!a!a!a!a!a!");
        x.write();
        Check.add(x, "a");
        Check.due("93 at first", x.sheetsTo(1, 93), 0);
        Check.due("57 behind 20", x.sheetsTo(1, 57), 20);
        Check.due("56 is too little", x.sheetsTo(1, 56), Check.NONE);
        PracticeSheets y = new PracticeSheets();
        // a is tried 15, 69, 81, 93, 105 times: at a need of 1 only the shortest word has a gain
        Check.write(y, "a!aaaaaaaaaaaaaa");
        Check.add(y, "aaaaaaaaaaaaaaa,aaaaaaaaaaaaaa,aaaaaaaaaaaaa,aaaaaaaaaaaa");
        y.setUntried(0);
        Check.due("0 is reached", y.sheetsTo(4, 0), 4);
        // 15, 27, 39, 51, 63, 75, 87, 99 times
        Check.due("of one line", y.sheetsTo(1, 0), 7);
        PracticeSheets z = new PracticeSheets();
        Check.due("no words", z.sheetsTo(1, 0), 0);
        Check.write(z, "a!");
        Check.due("no words, but needs", z.sheetsTo(1, 0), 0);
        Check.due("no sheet without a word", z.doSheet(1), Check.NONE);
    }
}
