/**
 * Handwriting practice sheets that are fitted to what a child slips at.
 *
 * Letters and joins together are called parts: the letters are parts 0 to 25, the joins follow
 * them. All rows are made once, with the object, and used again, so that calls make nothing new.
 */
public final class PracticeSheets {
    public static final int UNKNOWN = -1;
    public static final int BAD_VALUE = -2;
    public static final int FULL = -3;
    public static final int NOT_POSSIBLE = -4;
    public static final int NONE = -5;

    private static final int LETTERS = 26;
    private static final int JOINS = LETTERS * LETTERS;
    private static final int PARTS = LETTERS + JOINS;
    private static final int MOST_LETTERS = 15;
    private static final int MOST_WORD_PARTS = 2 * MOST_LETTERS - 1;
    private static final int MOST_TRIES = 9999;
    private static final int MOST_NEED = 99;
    private static final int MOST_WEEKS = 999;
    private static final int MOST_WEEKS_AT_ONCE = 20;
    private static final int MOST_UNTRIED = 99;
    private static final int FIRST_UNTRIED = 5;
    private static final int MOST_WORDS = 20;
    private static final int MOST_LINES = 10;
    private static final int MOST_SHEETS = 20;
    private static final int MOST_SIGNS = 60;
    private static final int MOST_STATES = 4;
    private static final int NO_FAULT = -1;
    private static final int FAULT_BASE = -100;

    private final State now;
    private final State snapshot;
    private final State trial;
    private final History history;
    private final Text text;
    private final Sheet plan;
    private final Ranking ranking;
    private boolean hasSnapshot;

    public PracticeSheets() {
        now = new State();
        snapshot = new State();
        trial = new State();
        history = new History();
        text = new Text();
        plan = new Sheet();
        ranking = new Ranking();
        hasSnapshot = false;
    }

    // ---- writing, weeks, settings

    public int write() {
        int fault = text.faultAsWritten();
        if (fault != NO_FAULT) {
            return FAULT_BASE - fault;
        }
        history.remember(now);
        int slips = text.practiseIn(now.practice);
        now.written++;
        now.slips += slips;
        return slips;
    }

    public int pass(int weeks) {
        if (weeks < 1 || weeks > MOST_WEEKS_AT_ONCE) {
            return BAD_VALUE;
        }
        if (now.weeks + weeks > MOST_WEEKS) {
            return FULL;
        }
        history.remember(now);
        now.weeks += weeks;
        return now.practice.fade(weeks);
    }

    public int setUntried(int untried) {
        if (untried < 0 || untried > MOST_UNTRIED) {
            return BAD_VALUE;
        }
        int previous = now.untried;
        if (untried == previous) {
            return NONE;
        }
        history.remember(now);
        now.untried = untried;
        return previous;
    }

    // ---- words

    public int addWords() {
        int fault = text.faultAsWords();
        if (fault != NO_FAULT) {
            return FAULT_BASE - fault;
        }
        WordList longer = trial.words;
        longer.copyFrom(now.words);
        if (!text.spellInto(longer)) {
            return FULL;
        }
        int added = longer.size - now.words.size;
        if (added == 0) {
            return NONE;
        }
        history.remember(now);
        now.words.copyFrom(longer);
        return added;
    }

    public int removeWord(int word) {
        if (now.words.at(word) == null) {
            return UNKNOWN;
        }
        history.remember(now);
        now.words.drop(word);
        return now.words.size;
    }

    // ---- sheets

    public int doSheet(int lines) {
        if (!areLines(lines)) {
            return BAD_VALUE;
        }
        plan.choose(now, lines);
        if (plan.size == 0) {
            return NONE;
        }
        history.remember(now);
        now.practise(plan);
        return plan.size;
    }

    // ---- texts

    public int type(char character) {
        return text.append(character) ? text.length : FULL;
    }

    public int clearText() {
        int length = text.length;
        text.length = 0;
        return length;
    }

    // ---- history

    public int undo() {
        return history.takeBack(now) ? history.size : NONE;
    }

    public int keep() {
        snapshot.copyFrom(now);
        hasSnapshot = true;
        return now.words.size;
    }

    public int restore() {
        if (!hasSnapshot) {
            return NONE;
        }
        history.remember(now);
        now.copyFrom(snapshot);
        return now.words.size;
    }

    // ---- what is told

    public int letter(char letter, int what) {
        if (!isLetter(letter)) {
            return UNKNOWN;
        }
        return toldOfPart(letterNumber(letter), what);
    }

    public int join(char one, char other, int what) {
        if (!isLetter(one) || !isLetter(other)) {
            return UNKNOWN;
        }
        return toldOfPart(joinPart(letterNumber(one), letterNumber(other)), what);
    }

    public int word(int word, int what) {
        Word asked = now.words.at(word);
        if (asked == null) {
            return UNKNOWN;
        }
        switch (what) {
            case 0:
                return asked.length;
            case 1:
                return now.practice.needOfAll(asked);
            case 2:
                return asked.partCount;
            case 3:
                return now.practice.untriedOf(asked);
            case 4:
                plan.clear();
                return plan.gainOf(asked, now);
            default:
                return BAD_VALUE;
        }
    }

    public int letterOf(int word, int index) {
        Word asked = now.words.at(word);
        if (asked == null) {
            return UNKNOWN;
        }
        if (index < 0) {
            return BAD_VALUE;
        }
        return index < asked.length ? asked.letters[index] : NONE;
    }

    public int sheet(int lines, int line, int what) {
        if (!areLines(lines) || line < 0 || what < 0 || what > 1) {
            return BAD_VALUE;
        }
        plan.choose(now, lines);
        if (line >= plan.size) {
            return NONE;
        }
        return what == 0 ? plan.words[line] : plan.gains[line];
    }

    public int covers(int lines, int what) {
        if (!areLines(lines) || what < 0 || what > 4) {
            return BAD_VALUE;
        }
        plan.choose(now, lines);
        switch (what) {
            case 0:
                return plan.size;
            case 1:
                return plan.coveredFrom(0, LETTERS);
            case 2:
                return plan.coveredFrom(LETTERS, PARTS);
            case 3:
                return plan.needCovered(now.practice);
            default:
                return plan.sumOfGains();
        }
    }

    public int worst(boolean areJoins, int rank) {
        if (rank < 0) {
            return BAD_VALUE;
        }
        int first = firstPart(areJoins);
        int part = ranking.partAt(now.practice, first, endOfParts(areJoins), rank);
        return part == NONE ? NONE : part - first;
    }

    public int missing(boolean areJoins) {
        int end = endOfParts(areJoins);
        int found = 0;
        for (int part = firstPart(areJoins); part < end; part++) {
            if (now.practice.needOf(part) > 0 && now.words.howManyHave(part) == 0) {
                found++;
            }
        }
        return found;
    }

    public int sheetsTo(int lines, int need) {
        if (!areLines(lines) || need < 0 || need > MOST_NEED) {
            return BAD_VALUE;
        }
        trial.copyFrom(now);
        for (int done = 0; done <= MOST_SHEETS; done++) {
            if (trial.greatestNeedOfWords() <= need) {
                return done;
            }
            plan.choose(trial, lines);
            if (plan.size == 0) {
                return NONE;
            }
            trial.practise(plan);
        }
        return NONE;
    }

    public int count(int what) {
        switch (what) {
            case 0:
                return now.words.size;
            case 1:
                return now.weeks;
            case 2:
                return now.untried;
            case 3:
                return LETTERS - now.practice.triedFrom(0, LETTERS);
            case 4:
                return now.practice.triedFrom(LETTERS, PARTS);
            case 5:
                return now.practice.greatestNeedFrom(0, LETTERS);
            case 6:
                return now.practice.greatestNeedFrom(LETTERS, PARTS);
            case 7:
                return now.written;
            case 8:
                return now.slips;
            case 9:
                return now.sheets;
            case 10:
                return history.size;
            case 11:
                return text.length;
            default:
                return BAD_VALUE;
        }
    }

    private int toldOfPart(int part, int what) {
        switch (what) {
            case 0:
                return now.practice.triesOf(part);
            case 1:
                return now.practice.slipsOf(part);
            case 2:
                return now.practice.needOf(part);
            case 3:
                return now.words.howManyHave(part);
            default:
                return BAD_VALUE;
        }
    }

    private static boolean areLines(int lines) {
        return lines >= 1 && lines <= MOST_LINES;
    }

    private static boolean isLetter(char sign) {
        return sign >= 'a' && sign <= 'z';
    }

    private static int letterNumber(char letter) {
        return letter - 'a';
    }

    private static int joinPart(int one, int other) {
        return LETTERS + LETTERS * one + other;
    }

    private static boolean isPart(int part) {
        return part >= 0 && part < PARTS;
    }

    private static int firstPart(boolean areJoins) {
        return areJoins ? LETTERS : 0;
    }

    private static int endOfParts(boolean areJoins) {
        return areJoins ? PARTS : LETTERS;
    }

    /** A word of the list, with its parts, each once. */
    private static final class Word {
        private final int[] letters;
        private final int[] parts;
        private int length;
        private int partCount;

        Word() {
            letters = new int[MOST_LETTERS];
            parts = new int[MOST_WORD_PARTS];
            length = 0;
            partCount = 0;
        }

        void clear() {
            length = 0;
            partCount = 0;
        }

        void append(int letter) {
            if (length >= MOST_LETTERS) {
                return;
            }
            addPart(letter);
            if (length > 0) {
                addPart(joinPart(letters[length - 1], letter));
            }
            letters[length] = letter;
            length++;
        }

        private void addPart(int part) {
            if (partCount < MOST_WORD_PARTS && !has(part)) {
                parts[partCount] = part;
                partCount++;
            }
        }

        boolean has(int part) {
            for (int i = 0; i < partCount; i++) {
                if (parts[i] == part) {
                    return true;
                }
            }
            return false;
        }

        boolean isSpelledAs(Word other) {
            if (length != other.length) {
                return false;
            }
            for (int i = 0; i < length; i++) {
                if (letters[i] != other.letters[i]) {
                    return false;
                }
            }
            return true;
        }

        void copyFrom(Word other) {
            System.arraycopy(other.letters, 0, letters, 0, MOST_LETTERS);
            System.arraycopy(other.parts, 0, parts, 0, MOST_WORD_PARTS);
            length = other.length;
            partCount = other.partCount;
        }
    }

    /** The words that can be practised. */
    private static final class WordList {
        private final Word[] words;
        private int size;

        WordList() {
            words = new Word[MOST_WORDS];
            for (int i = 0; i < MOST_WORDS; i++) {
                words[i] = new Word();
            }
            size = 0;
        }

        /** The word of a number, or null if there is none. */
        Word at(int number) {
            return number >= 0 && number < size ? words[number] : null;
        }

        /** Puts a word on the list, if it is not on it; tells whether it is on it then. */
        boolean take(Word added) {
            for (int i = 0; i < size; i++) {
                if (words[i].isSpelledAs(added)) {
                    return true;
                }
            }
            if (size >= MOST_WORDS) {
                return false;
            }
            words[size].copyFrom(added);
            size++;
            return true;
        }

        void drop(int number) {
            if (number < 0 || number >= size) {
                return;
            }
            for (int i = number + 1; i < size; i++) {
                words[i - 1].copyFrom(words[i]);
            }
            size--;
        }

        int howManyHave(int part) {
            int found = 0;
            for (int i = 0; i < size; i++) {
                if (words[i].has(part)) {
                    found++;
                }
            }
            return found;
        }

        void copyFrom(WordList other) {
            for (int i = 0; i < other.size; i++) {
                words[i].copyFrom(other.words[i]);
            }
            size = other.size;
        }
    }

    /** The tries and slips of all parts. */
    private static final class Practice {
        private final int[] tries;
        private final int[] slips;

        Practice() {
            tries = new int[PARTS];
            slips = new int[PARTS];
        }

        int triesOf(int part) {
            return isPart(part) ? tries[part] : 0;
        }

        int slipsOf(int part) {
            return isPart(part) ? slips[part] : 0;
        }

        int needOf(int part) {
            // tries are never below 0, so what divides is at least 2
            return 100 * slipsOf(part) / (Math.max(triesOf(part), 0) + 2);
        }

        boolean isUntried(int part) {
            return triesOf(part) == 0;
        }

        void addTry(int part) {
            if (isPart(part) && tries[part] < MOST_TRIES) {
                tries[part]++;
            }
        }

        void addSlip(int part) {
            if (isPart(part) && slips[part] < MOST_TRIES) {
                slips[part]++;
            }
        }

        void addTriesOf(Word word) {
            for (int i = 0; i < word.length; i++) {
                addTry(word.letters[i]);
                if (i > 0) {
                    addTry(joinPart(word.letters[i - 1], word.letters[i]));
                }
            }
        }

        /** Lets weeks pass; tells how many parts become untried. */
        int fade(int weeks) {
            int becomeUntried = 0;
            for (int part = 0; part < PARTS; part++) {
                boolean wasTried = tries[part] > 0;
                // a shift by one place is a half, rounded down: one place a week
                tries[part] >>= weeks;
                slips[part] >>= weeks;
                if (wasTried && tries[part] == 0) {
                    becomeUntried++;
                }
            }
            return becomeUntried;
        }

        int needOfAll(Word word) {
            int sum = 0;
            for (int i = 0; i < word.partCount; i++) {
                sum += needOf(word.parts[i]);
            }
            return sum;
        }

        int untriedOf(Word word) {
            int found = 0;
            for (int i = 0; i < word.partCount; i++) {
                if (isUntried(word.parts[i])) {
                    found++;
                }
            }
            return found;
        }

        int greatestNeedOf(Word word) {
            int greatest = 0;
            for (int i = 0; i < word.partCount; i++) {
                greatest = Math.max(greatest, needOf(word.parts[i]));
            }
            return greatest;
        }

        int greatestNeedFrom(int first, int end) {
            int greatest = 0;
            for (int part = first; part < end; part++) {
                greatest = Math.max(greatest, needOf(part));
            }
            return greatest;
        }

        int triedFrom(int first, int end) {
            int found = 0;
            for (int part = first; part < end; part++) {
                if (!isUntried(part)) {
                    found++;
                }
            }
            return found;
        }

        void copyFrom(Practice other) {
            System.arraycopy(other.tries, 0, tries, 0, PARTS);
            System.arraycopy(other.slips, 0, slips, 0, PARTS);
        }
    }

    /** Everything that the history and the snapshot keep. */
    private static final class State {
        private final Practice practice;
        private final WordList words;
        private int weeks;
        private int untried;
        private int written;
        private int slips;
        private int sheets;

        State() {
            practice = new Practice();
            words = new WordList();
            weeks = 0;
            untried = FIRST_UNTRIED;
            written = 0;
            slips = 0;
            sheets = 0;
        }

        /** Writes each line of a sheet once, without a slip. */
        void practise(Sheet done) {
            for (int line = 0; line < done.size; line++) {
                Word word = words.at(done.words[line]);
                if (word != null) {
                    practice.addTriesOf(word);
                    written++;
                }
            }
            sheets++;
        }

        int greatestNeedOfWords() {
            int greatest = 0;
            for (int i = 0; i < words.size; i++) {
                greatest = Math.max(greatest, practice.greatestNeedOf(words.words[i]));
            }
            return greatest;
        }

        void copyFrom(State other) {
            practice.copyFrom(other.practice);
            words.copyFrom(other.words);
            weeks = other.weeks;
            untried = other.untried;
            written = other.written;
            slips = other.slips;
            sheets = other.sheets;
        }
    }

    /** The latest states, the oldest one first. */
    private static final class History {
        private final State[] states;
        private int size;

        History() {
            states = new State[MOST_STATES];
            for (int i = 0; i < MOST_STATES; i++) {
                states[i] = new State();
            }
            size = 0;
        }

        void remember(State state) {
            if (size >= MOST_STATES) {
                dropOldest();
            }
            states[size].copyFrom(state);
            size++;
        }

        private void dropOldest() {
            // the oldest one's rows are used again for the state that comes
            State oldest = states[0];
            for (int i = 1; i < MOST_STATES; i++) {
                states[i - 1] = states[i];
            }
            states[MOST_STATES - 1] = oldest;
            size--;
        }

        /** Puts the latest state into another one; tells whether there was a state. */
        boolean takeBack(State into) {
            if (size == 0) {
                return false;
            }
            size--;
            into.copyFrom(states[size]);
            return true;
        }
    }

    /** The text, and what it says as a written word or as words. */
    private static final class Text {
        private final char[] signs;
        private final Word spelled;
        private int length;

        Text() {
            signs = new char[MOST_SIGNS];
            spelled = new Word();
            length = 0;
        }

        boolean append(char sign) {
            if (length >= MOST_SIGNS) {
                return false;
            }
            signs[length] = sign;
            length++;
            return true;
        }

        int faultAsWritten() {
            // at the start, as behind a "-", nothing but a letter may stand
            char before = '-';
            int letters = 0;
            for (int i = 0; i < length; i++) {
                char sign = signs[i];
                if (!mayBeWritten(sign, before, letters)) {
                    return i;
                }
                if (isLetter(sign)) {
                    letters++;
                }
                before = sign;
            }
            return before == '-' ? length : NO_FAULT;
        }

        private static boolean mayBeWritten(char sign, char before, int letters) {
            if (sign == '!') {
                return isLetter(before);
            }
            if (sign == '-') {
                return before != '-' && letters < MOST_LETTERS;
            }
            return isLetter(sign) && letters < MOST_LETTERS;
        }

        int faultAsWords() {
            int letters = 0;
            for (int i = 0; i < length; i++) {
                if (isLetter(signs[i]) && letters < MOST_LETTERS) {
                    letters++;
                } else if (signs[i] == ',' && letters > 0) {
                    letters = 0;
                } else {
                    return i;
                }
            }
            return letters == 0 ? length : NO_FAULT;
        }

        /** Adds the tries and slips of a written word without a fault; tells how many slips it has. */
        int practiseIn(Practice practice) {
            int slips = 0;
            int last = NONE;
            boolean joinIsMarked = false;
            for (int i = 0; i < length; i++) {
                char sign = signs[i];
                if (sign == '!') {
                    practice.addSlip(last);
                    slips++;
                } else if (sign == '-') {
                    joinIsMarked = true;
                    slips++;
                } else {
                    int letter = letterNumber(sign);
                    practice.addTry(letter);
                    if (last != NONE) {
                        tryJoin(practice, joinPart(last, letter), joinIsMarked);
                    }
                    joinIsMarked = false;
                    last = letter;
                }
            }
            return slips;
        }

        private static void tryJoin(Practice practice, int part, boolean isMarked) {
            practice.addTry(part);
            if (isMarked) {
                practice.addSlip(part);
            }
        }

        /** Puts the words of a text without a fault on a list; tells whether it has room for all. */
        boolean spellInto(WordList list) {
            spelled.clear();
            for (int i = 0; i < length; i++) {
                if (signs[i] != ',') {
                    spelled.append(letterNumber(signs[i]));
                } else if (list.take(spelled)) {
                    spelled.clear();
                } else {
                    return false;
                }
            }
            return list.take(spelled);
        }
    }

    /** The lines of a sheet, as they are chosen one after the other. */
    private static final class Sheet {
        private final int[] words;
        private final int[] gains;
        private final boolean[] isCovered;
        private final boolean[] isTaken;
        private int size;

        Sheet() {
            words = new int[MOST_LINES];
            gains = new int[MOST_LINES];
            isCovered = new boolean[PARTS];
            isTaken = new boolean[MOST_WORDS];
            size = 0;
        }

        void clear() {
            for (int part = 0; part < PARTS; part++) {
                isCovered[part] = false;
            }
            for (int i = 0; i < MOST_WORDS; i++) {
                isTaken[i] = false;
            }
            size = 0;
        }

        void choose(State state, int lines) {
            clear();
            boolean isOpen = true;
            for (int line = 0; line < lines && isOpen; line++) {
                isOpen = chooseLine(state);
            }
        }

        /** Adds the word that gains most; tells whether there was one that gains. */
        private boolean chooseLine(State state) {
            int best = NONE;
            int bestGain = 0;
            int bestLength = 0;
            for (int i = 0; i < state.words.size; i++) {
                if (isTaken[i]) {
                    continue;
                }
                Word word = state.words.words[i];
                int gain = gainOf(word, state);
                if (gain > bestGain || gain == bestGain && word.length < bestLength) {
                    best = i;
                    bestGain = gain;
                    bestLength = word.length;
                }
            }
            if (best == NONE || size >= MOST_LINES) {
                return false;
            }
            addLine(best, bestGain, state.words.words[best]);
            return true;
        }

        private void addLine(int number, int gain, Word word) {
            words[size] = number;
            gains[size] = gain;
            size++;
            isTaken[number] = true;
            for (int i = 0; i < word.partCount; i++) {
                if (isPart(word.parts[i])) {
                    isCovered[word.parts[i]] = true;
                }
            }
        }

        int gainOf(Word word, State state) {
            int gain = 0;
            for (int i = 0; i < word.partCount; i++) {
                int part = word.parts[i];
                if (state.practice.isUntried(part)) {
                    gain += state.untried;
                } else if (isPart(part) && isCovered[part]) {
                    gain += state.practice.needOf(part) / 2;
                } else {
                    gain += state.practice.needOf(part);
                }
            }
            return gain;
        }

        int coveredFrom(int first, int end) {
            int found = 0;
            for (int part = first; part < end; part++) {
                if (isCovered[part]) {
                    found++;
                }
            }
            return found;
        }

        int needCovered(Practice practice) {
            int sum = 0;
            for (int part = 0; part < PARTS; part++) {
                if (isCovered[part]) {
                    sum += practice.needOf(part);
                }
            }
            return sum;
        }

        int sumOfGains() {
            int sum = 0;
            for (int line = 0; line < size; line++) {
                sum += gains[line];
            }
            return sum;
        }
    }

    /** Finds parts by their rank, without sorting: it counts first how many have each need. */
    private static final class Ranking {
        private final int[] howMany;

        Ranking() {
            howMany = new int[MOST_NEED + 1];
        }

        /** The part of a rank among those from first to ahead of end, or NONE. */
        int partAt(Practice practice, int first, int end, int rank) {
            countNeeds(practice, first, end);
            int left = rank;
            for (int need = MOST_NEED; need > 0; need--) {
                if (left < howMany[need]) {
                    return partWithNeed(practice, first, end, need, left);
                }
                left -= howMany[need];
            }
            return NONE;
        }

        private void countNeeds(Practice practice, int first, int end) {
            for (int need = 0; need <= MOST_NEED; need++) {
                howMany[need] = 0;
            }
            for (int part = first; part < end; part++) {
                int need = practice.needOf(part);
                if (need >= 0 && need <= MOST_NEED) {
                    howMany[need]++;
                }
            }
        }

        private static int partWithNeed(Practice practice, int first, int end, int need, int among) {
            int left = among;
            for (int part = first; part < end; part++) {
                if (practice.needOf(part) == need) {
                    if (left == 0) {
                        return part;
                    }
                    left--;
                }
            }
            return NONE;
        }
    }
}
