/**
 * The sentences of the document's Terms that name an edge, each with a test of its own. The sentence stands ahead
 * of its test; what is in several sentences of the document is tested where it stands first.
 */
public final class TermsTest {
    private static final String FIFTEEN = "aaaaaaaaaaaaaaa";
    private static final String ALL_MARKED = "a!-a!-a!-a!-a!-a!-a!-a!-a!-a!-a!-a!-a!-a!-a!";

    public static void main(String[] args) {
        lettersAreNumbered();
        joinsAreNumbered();
        nothingIsTriedAtFirst();
        needsAreRoundedDown();
        needsEndAt99();
        untriedWithoutATry();
        wordsOfOneAndOf15Letters();
        eachLetterIsATry();
        marksAreSlipsToo();
        triesEndAt9999();
        joinTriesEndAt9999();
        slipsEndAt9999();
        weeksStartAt0();
        halvesAreRoundedDown();
        halfOfTheMost();
        whatWasDoneIsNotHalved();
        Check.end();
    }

    /** "There are the letters a to z, numbered from 0". */
    private static void lettersAreNumbered() {
        PracticeSheets x = new PracticeSheets();
        Check.add(x, "azm");
        Check.due("a", x.letterOf(0, 0), 0);
        Check.due("z", x.letterOf(0, 1), 25);
        Check.due("m", x.letterOf(0, 2), 12);
        Check.due("ahead of a", x.letter((char) ('a' - 1), 0), Check.UNKNOWN);
        Check.due("behind z", x.letter((char) ('z' + 1), 0), Check.UNKNOWN);
        Check.write(x, "z!");
        Check.due("z is the worst", x.worst(false, 0), 25);
        x.undo();
        Check.write(x, "a!");
        Check.due("a is the worst", x.worst(false, 0), 0);
    }

    /** "joins: pairs of letters, one behind the other (also twice the same), numbered 26 * the first one and ..". */
    private static void joinsAreNumbered() {
        String[] texts = {"a-a", "a-b", "a-z", "b-a", "b-z", "y-z", "z-a", "z-y", "z-z"};
        int[] numbers = {0, 1, 25, 26, 51, 649, 650, 674, 675};
        for (int i = 0; i < texts.length; i++) {
            PracticeSheets x = new PracticeSheets();
            Check.due("write of " + texts[i], Check.write(x, texts[i]), 1);
            Check.due("number of " + texts[i], x.worst(true, 0), numbers[i]);
            Check.due("only " + texts[i], x.worst(true, 1), Check.NONE);
            Check.due("tries of " + texts[i], x.join(texts[i].charAt(0), texts[i].charAt(2), 0), 1);
        }
        PracticeSheets x = new PracticeSheets();
        Check.write(x, "a-b");
        Check.due("ba is another join", x.join('b', 'a', 0) + x.join('b', 'a', 1) + x.join('b', 'a', 2), 0);
    }

    /** "Each letter and each join has tries and slips (0 each at first)". */
    private static void nothingIsTriedAtFirst() {
        for (char one = 'a'; one <= 'z'; one++) {
            PracticeSheets x = new PracticeSheets();
            for (int what = 0; what < 4; what++) {
                Check.due("letter " + one, x.letter(one, what), 0);
                for (char other = 'a'; other <= 'z'; other++) {
                    Check.due("join " + one + other, x.join(one, other, what), 0);
                }
            }
        }
    }

    /** "Its need is 100 * slips / (tries + 2), rounded down". */
    private static void needsAreRoundedDown() {
        // tries from 1 on, with one slip: 33.3, 25, 20, 16.7, 14.3, 12.5, 11.1, 10, 9.1
        int[] needs = {33, 25, 20, 16, 14, 12, 11, 10, 9};
        PracticeSheets x = new PracticeSheets();
        Check.write(x, "q!");
        for (int i = 0; i < needs.length; i++) {
            Check.due("need of 1 of " + (i + 1), x.letter('q', 2), needs[i]);
            Check.write(x, "q");
        }
        PracticeSheets y = new PracticeSheets();
        Check.write(y, "q!");
        Check.text(y, "qqqqqqqqqqqqqqq");
        for (int i = 0; i < 6; i++) {
            y.write();
        }
        Check.write(y, "qqqqqqq");
        Check.due("98 tries", y.letter('q', 0), 98);
        Check.due("need of 1 of 98: 100 / 100", y.letter('q', 2), 1);
        Check.write(y, "q");
        Check.due("need of 1 of 99: 100 / 101", y.letter('q', 2), 0);
        Check.due("a need of 0 is no need", y.count(5), 0);
    }

    /** The same sentence: as slips are tries, too, a need is never above 99. */
    private static void needsEndAt99() {
        PracticeSheets x = new PracticeSheets();
        Check.text(x, ALL_MARKED);
        for (int i = 0; i < 13; i++) {
            x.write();
        }
        Check.due("195 of 195: 19500 / 197", x.letter('a', 2), 98);
        Check.write(x, "a!a!");
        Check.due("197 of 197: 19700 / 199", x.letter('a', 2), 98);
        Check.write(x, "a!");
        Check.due("198 of 198: 19800 / 200", x.letter('a', 2), 99);
        Check.text(x, ALL_MARKED);
        for (int i = 0; i < 350; i++) {
            x.write();
        }
        Check.due("5448 of 5448", x.letter('a', 2), 99);
        Check.due("is the worst", x.worst(false, 0), 0);
        Check.due("so is the join", x.worst(true, 0), 0);
        Check.due("no other is", x.worst(true, 1), Check.NONE);
        Check.due("greatest of a letter", x.count(5), 99);
        Check.due("greatest of a join", x.count(6), 99);
    }

    /** "it is untried if it has no tries". */
    private static void untriedWithoutATry() {
        PracticeSheets x = new PracticeSheets();
        Check.add(x, "pq");
        Check.due("p, q and pq", x.word(0, 3), 3);
        Check.due("letters", x.count(3), 26);
        Check.write(x, "p");
        Check.due("one try is enough", x.word(0, 3), 2);
        Check.due("letters", x.count(3), 25);
        Check.write(x, "qp");
        Check.due("qp is not pq", x.word(0, 3), 1);
        Check.write(x, "pq");
        Check.due("none", x.word(0, 3), 0);
        Check.due("joins with tries", x.count(4), 2);
        // p has 3 tries, q 2, qp and pq 1
        x.pass(1);
        Check.due("a half of 1 is none", x.word(0, 3), 1);
        Check.due("joins with tries", x.count(4), 0);
        Check.due("letters", x.count(3), 24);
        x.pass(1);
        Check.due("all again", x.word(0, 3), 3);
        Check.due("letters", x.count(3), 26);
    }

    /** "A word that is written is 1 to 15 letters". */
    private static void wordsOfOneAndOf15Letters() {
        PracticeSheets x = new PracticeSheets();
        Check.due("no letter", x.write(), -100);
        Check.due("1 letter", Check.write(x, "a"), 0);
        Check.due("without a join", x.count(4), 0);
        Check.due("15 letters", Check.write(x, "abcdefghijklmno"), 0);
        Check.due("with 14 joins", x.count(4), 14);
        Check.due("the last one", x.join('n', 'o', 0), 1);
        Check.due("16 letters", Check.write(x, "abcdefghijklmnop"), -115);
        Check.due("nothing of it is tried", x.letter('p', 0) + x.join('o', 'p', 0), 0);
        Check.due("nor of its beginning", x.letter('b', 0), 1);
        Check.due("words written", x.count(7), 2);
    }

    /** "each letter of it is a try of this letter, and each pair of letters of it, .., a try of this join". */
    private static void eachLetterIsATry() {
        PracticeSheets x = new PracticeSheets();
        Check.write(x, FIFTEEN);
        Check.due("a", x.letter('a', 0), 15);
        Check.due("aa", x.join('a', 'a', 0), 14);
        Check.write(x, "babab");
        Check.due("b", x.letter('b', 0), 3);
        Check.due("a", x.letter('a', 0), 17);
        Check.due("ba", x.join('b', 'a', 0), 2);
        Check.due("ab", x.join('a', 'b', 0), 2);
        Check.due("bb does not stand in it", x.join('b', 'b', 0), 0);
        Check.write(x, "b");
        Check.due("no join from one word to the next", x.join('b', 'b', 0), 0);
    }

    /** "A letter or a join that is marked is a slip, too." */
    private static void marksAreSlipsToo() {
        PracticeSheets x = new PracticeSheets();
        Check.due("all of 15 letters", Check.write(x, ALL_MARKED), 29);
        Check.due("a tries", x.letter('a', 0), 15);
        Check.due("a slips", x.letter('a', 1), 15);
        Check.due("aa tries", x.join('a', 'a', 0), 14);
        Check.due("aa slips", x.join('a', 'a', 1), 14);
        PracticeSheets y = new PracticeSheets();
        Check.due("the first letter alone", Check.write(y, "b!cb"), 1);
        Check.due("b tries", y.letter('b', 0), 2);
        Check.due("b slips", y.letter('b', 1), 1);
        Check.due("no join slips", y.count(6), 0);
        Check.due("the last letter alone", Check.write(y, "bcb!"), 1);
        Check.due("b slips", y.letter('b', 1), 2);
        Check.due("the first join alone", Check.write(y, "b-cb"), 1);
        Check.due("bc slips", y.join('b', 'c', 1), 1);
        Check.due("cb slips", y.join('c', 'b', 1), 0);
        Check.due("the last join alone", Check.write(y, "bc-b"), 1);
        Check.due("bc slips", y.join('b', 'c', 1), 1);
        Check.due("cb slips", y.join('c', 'b', 1), 1);
        Check.due("a mark behind the 15th letter", Check.write(y, "ddddddddddddddd!"), 1);
        Check.due("d slips", y.letter('d', 1), 1);
        Check.due("a join to the 15th letter", Check.write(y, "eeeeeeeeeeeeee-e"), 1);
        Check.due("ee slips", y.join('e', 'e', 1), 1);
    }

    /** A child with 9960 tries of a, 300 slips of it, and 9020 tries of aa; the text is empty. */
    private static PracticeSheets practised() {
        PracticeSheets x = new PracticeSheets();
        Check.text(x, ALL_MARKED);
        for (int i = 0; i < 20; i++) {
            x.write();
        }
        Check.add(x, "aaaaaaaaaaaaaaa,aaaaaaaaaaaaaa,aaaaaaaaaaaaa,aaaaaaaaaaaa");
        Check.add(x, "aaaaaaaaaaa,aaaaaaaaaa,aaaaaaaaa,aaaaaaaa,aaaaaaa,aaaaaa");
        for (int i = 0; i < 92; i++) {
            x.doSheet(10);
        }
        x.clearText();
        return x;
    }

    /** "Tries and slips grow to at most 9999": the tries of a letter. */
    private static void triesEndAt9999() {
        PracticeSheets x = practised();
        Check.due("9960", x.letter('a', 0), 9960);
        Check.text(x, FIFTEEN);
        x.write();
        x.write();
        Check.write(x, "aaaaaaaa");
        Check.due("9998", x.letter('a', 0), 9998);
        Check.write(x, "a");
        Check.due("9999", x.letter('a', 0), 9999);
        Check.due("is written, too", Check.write(x, "a!"), 1);
        Check.due("9999 still", x.letter('a', 0), 9999);
        Check.due("slips still grow", x.letter('a', 1), 301);
        Check.due("need: 30100 / 10001", x.letter('a', 2), 3);
        Check.due("words written", x.count(7), 20 + 920 + 3 + 2);
        x.undo();
        x.undo();
        Check.due("9998 again", x.letter('a', 0), 9998);
        Check.write(x, "aaa");
        Check.due("three more end at 9999", x.letter('a', 0), 9999);
        Check.due("the join goes on", x.join('a', 'a', 0), 280 + 92 * 95 + 2 * 14 + 7 + 2);
        x.undo();
        x.doSheet(10);
        Check.due("a sheet ends at 9999", x.letter('a', 0), 9999);
        x.pass(1);
        Check.due("4999 behind a week", x.letter('a', 0), 4999);
        Check.write(x, "a");
        Check.due("it grows again", x.letter('a', 0), 5000);
    }

    /** The same sentence: the tries of a join. */
    private static void joinTriesEndAt9999() {
        PracticeSheets x = practised();
        for (int i = 0; i < 13; i++) {
            x.doSheet(10);
        }
        Check.due("280 and 105 * 95 are too many", x.join('a', 'a', 0), 9999);
        x.undo();
        x.undo();
        x.undo();
        Check.due("102 sheets", x.join('a', 'a', 0), 9970);
        Check.text(x, FIFTEEN);
        x.write();
        x.write();
        Check.due("9998", x.join('a', 'a', 0), 9998);
        Check.write(x, "aa");
        Check.due("9999", x.join('a', 'a', 0), 9999);
        Check.write(x, "a-a");
        Check.due("9999 still", x.join('a', 'a', 0), 9999);
        Check.due("slips still grow", x.join('a', 'a', 1), 281);
    }

    /** The same sentence: slips. 512 calls write too few of them, so this one goes on behind the promised calls. */
    private static void slipsEndAt9999() {
        PracticeSheets x = new PracticeSheets();
        Check.text(x, ALL_MARKED);
        for (int i = 0; i < 666; i++) {
            x.write();
        }
        Check.due("a: 9990", x.letter('a', 1), 9990);
        x.write();
        Check.due("a: 9999", x.letter('a', 1), 9999);
        Check.due("tries of a: 9999", x.letter('a', 0), 9999);
        Check.due("need of a: 999900 / 10001", x.letter('a', 2), 99);
        Check.due("aa: 9338", x.join('a', 'a', 1), 9338);
        for (int i = 0; i < 60; i++) {
            x.write();
        }
        Check.due("a: 9999 still", x.letter('a', 1), 9999);
        Check.due("aa: 9999", x.join('a', 'a', 1), 9999);
        Check.due("slips so far have no such end", x.count(8), 727 * 29);
    }

    /** "Weeks are counted (0 at first)." */
    private static void weeksStartAt0() {
        PracticeSheets x = new PracticeSheets();
        Check.due("at first", x.count(1), 0);
        x.pass(1);
        Check.due("one", x.count(1), 1);
        x.pass(20);
        Check.due("twenty more", x.count(1), 21);
    }

    /** "When a week passes, all tries and all slips become half of what they are, rounded down." */
    private static void halvesAreRoundedDown() {
        PracticeSheets x = new PracticeSheets();
        // tries and slips of a: 1, 1; b: 2, 1; c: 3, 2; d: 4, 3; e: 5, 5; z: 7, 7; zz: 6, 0
        Check.write(x, "a!");
        Check.write(x, "b!b");
        Check.write(x, "c!c!c");
        Check.write(x, "d!d!d!d");
        Check.write(x, "e!e!e!e!e!");
        Check.write(x, "z!z!z!z!z!z!z!");
        // a and bb (1 try) become untried
        Check.due("become untried", x.pass(1), 2);
        int[] tries = {0, 1, 1, 2, 2};
        int[] slips = {0, 0, 1, 1, 2};
        for (int i = 0; i < tries.length; i++) {
            Check.due("tries of " + (char) ('a' + i), x.letter((char) ('a' + i), 0), tries[i]);
            Check.due("slips of " + (char) ('a' + i), x.letter((char) ('a' + i), 1), slips[i]);
        }
        Check.due("tries of z", x.letter('z', 0), 3);
        Check.due("slips of z", x.letter('z', 1), 3);
        Check.due("tries of zz", x.join('z', 'z', 0), 3);
        Check.due("need of c: 100 / 3", x.letter('c', 2), 33);
        Check.due("need of a", x.letter('a', 2), 0);
        PracticeSheets y = new PracticeSheets();
        Check.write(y, "z-z-z-z");
        Check.due("none becomes untried", y.pass(1), 0);
        Check.due("tries of zz", y.join('z', 'z', 0), 1);
        Check.due("slips of zz", y.join('z', 'z', 1), 1);
        Check.due("zz becomes untried", y.pass(1), 1);
        Check.due("no slips of zz", y.join('z', 'z', 1), 0);
        Check.due("no need of zz", y.join('z', 'z', 2), 0);
    }

    /** The same sentence, with the most that there is, and with weeks at once as with weeks one by one. */
    private static void halfOfTheMost() {
        PracticeSheets x = practised();
        x.doSheet(10);
        int[] tries = {9999, 4999, 2499, 1249, 624, 312, 156, 78, 39, 19, 9, 4, 2, 1, 0};
        for (int weeks = 1; weeks < tries.length; weeks++) {
            x.pass(weeks);
            Check.due("a behind " + weeks + " weeks at once", x.letter('a', 0), tries[weeks]);
            x.undo();
        }
        for (int weeks = 1; weeks < tries.length; weeks++) {
            x.pass(1);
            Check.due("a behind " + weeks + " weeks", x.letter('a', 0), tries[weeks]);
        }
        Check.due("the letter was the last", x.count(3), 26);
    }

    /** The same sentence: what was written, slipped and done so far is no try and no slip of a part. */
    private static void whatWasDoneIsNotHalved() {
        PracticeSheets x = new PracticeSheets();
        Check.write(x, "a!-b!");
        Check.add(x, "ab,b");
        x.doSheet(2);
        x.pass(20);
        Check.due("written", x.count(7), 3);
        Check.due("slips", x.count(8), 3);
        Check.due("sheets", x.count(9), 1);
        Check.due("setting", x.count(2), 5);
        Check.same("list", Check.list(x), "ab b");
        Check.due("a", x.letter('a', 0) + x.letter('a', 1), 0);
    }
}
