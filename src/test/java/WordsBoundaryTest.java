/** The boundary cases of part 5's words and of promises 14 to 19, each by itself. */
public final class WordsBoundaryTest {
    private static final int NONE = StateShop.NONE, OUTSIDE = StateShop.OUTSIDE, STATE = StateShop.STATE;
    private static final int LEAST = Integer.MIN_VALUE, MOST = Integer.MAX_VALUE;
    /** How many words of four letters have 29 letters or less, and 30 or less. */
    private static final long TO_29 = ((1L << 60) - 1) / 3, TO_30 = ((1L << 62) - 1) / 3;

    public static void main(String[] args) throws Exception {
        Sentences.run(WordsBoundaryTest.class);
    }

    private static void allWords(StateShop shop, int slot, int k) {
        shop.make(slot, k, 1);
        shop.accept(slot, 0, true);
    }

    // ---- Promise 14: takes

    @Says(at = "Promise 14", words = "OUTSIDE (slot, or a byte is no letter of it).")
    static void takesSlotTooSmall(StateShop shop) {
        Check.due("takes(0)", shop.takes(0), 0);
        Check.due("takes(-1)", shop.takes(-1), OUTSIDE);
        Check.due("takes(least)", shop.takes(LEAST), OUTSIDE);
    }

    @Says(at = "Promise 14", words = "OUTSIDE (slot, or a byte is no letter of it).")
    static void takesSlotTooLarge(StateShop shop) {
        Check.due("takes(5)", shop.takes(5), 0);
        Check.due("takes(6)", shop.takes(6), OUTSIDE);
        Check.due("takes(most)", shop.takes(MOST), OUTSIDE);
    }

    @Says(at = "Promise 14", words = "OUTSIDE (slot, or a byte is no letter of it).")
    static void takesAByteBehindTheLetters(StateShop shop) {
        for (int k = 1; k <= 4; k++) {
            allWords(shop, 0, k);
            Check.due("the last letter of " + k, Check.takes(shop, 0, "abcde".substring(k - 1, k)), 1);
            Check.due("one behind it", Check.takes(shop, 0, "abcde".substring(k, k + 1)), OUTSIDE);
        }
        Check.due("byte 255", Check.takes(shop, 0, "\u00FF"), OUTSIDE);
    }

    @Says(at = "Promise 14", words = "OUTSIDE (slot, or a byte is no letter of it).")
    static void takesAByteBeforeTheLetters(StateShop shop) {
        allWords(shop, 0, 4);
        Check.due("`", Check.takes(shop, 0, "`"), OUTSIDE);
        Check.due("A", Check.takes(shop, 0, "A"), OUTSIDE);
        Check.due("byte 0", Check.takes(shop, 0, "\0"), OUTSIDE);
    }

    @Says(at = "Promise 14", words = "OUTSIDE (slot, or a byte is no letter of it).")
    static void takesOnlyTheLastByteIsNoLetter(StateShop shop) {
        allWords(shop, 0, 2);
        Check.due("the last of 500", Check.takes(shop, 0, "ab".repeat(249) + "ac"), OUTSIDE);
        Check.due("the first of two", Check.takes(shop, 0, "ca"), OUTSIDE);
    }

    @Says(at = "Promise 14", words = "Whether the word on the tape (its bytes are letters from 'a' on) is TAKEN: 1, 0.")
    static void takesTheEmptyWord(StateShop shop) {
        Check.due("not accepting", shop.takes(0), 0);
        shop.accept(0, 0, true);
        Check.due("accepting", shop.takes(0), 1);
    }

    @Says(at = "Promise 14", words = "Whether the word on the tape (its bytes are letters from 'a' on) is TAKEN: 1, 0.")
    static void takesAWordOf500Letters(StateShop shop) {
        Check.build(shop, 0, Check.circle(50));
        Check.due("500 letters", Check.takes(shop, 0, "a".repeat(500)), 1);
        Check.due("499 letters", Check.takes(shop, 0, "a".repeat(499)), 0);
    }

    @Says(at = "Promise 14", words = "The tape stays.")
    static void takesLeavesTheTape(StateShop shop) {
        Check.takes(shop, 0, "aaa");
        Check.due("behind an answer", Check.tape(shop), "aaa");
        Check.takes(shop, 0, "aaab");
        Check.due("behind OUTSIDE", Check.tape(shop), "aaab");
    }

    // ---- Promise 15: same

    @Says(at = "Promise 15", words = "OUTSIDE, STATE.")
    static void sameSlotTooSmall(StateShop shop) {
        Check.due("same(0, 0)", shop.same(0, 0), 1);
        Check.due("same(-1, 0)", shop.same(-1, 0), OUTSIDE);
        Check.due("same(0, -1)", shop.same(0, -1), OUTSIDE);
        Check.due("same(least, 0)", shop.same(LEAST, 0), OUTSIDE);
        Check.due("same(0, least)", shop.same(0, LEAST), OUTSIDE);
    }

    @Says(at = "Promise 15", words = "OUTSIDE, STATE.")
    static void sameSlotTooLarge(StateShop shop) {
        Check.due("same(5, 5)", shop.same(5, 5), 1);
        Check.due("same(6, 0)", shop.same(6, 0), OUTSIDE);
        Check.due("same(0, 6)", shop.same(0, 6), OUTSIDE);
        Check.due("same(most, 0)", shop.same(MOST, 0), OUTSIDE);
        Check.due("same(0, most)", shop.same(0, MOST), OUTSIDE);
    }

    @Says(at = "Promise 15", words = "OUTSIDE, STATE.")
    static void sameOfOtherLetters(StateShop shop) {
        shop.make(0, 2, 1);
        Check.due("2 and 1 letters", shop.same(0, 1), STATE);
        Check.due("1 and 2 letters", shop.same(1, 0), STATE);
    }

    @Says(at = "Promise 15", words = "OUTSIDE, STATE.")
    static void sameRefusedLeavesTheTape(StateShop shop) {
        shop.make(0, 2, 1);
        shop.accept(0, 0, true);
        Check.put(shop, "xyz");
        for (int[] wrong : new int[][] {{0, 1}, {1, 0}, {0, 6}, {-1, 0}}) {
            shop.same(wrong[0], wrong[1]);
            Check.due("the tape behind same(" + wrong[0] + ", " + wrong[1] + ")", Check.tape(shop), "xyz");
        }
    }

    @Says(at = "Promise 15", words = "Whether two machines take the same words: 1")
    static void sameLeavesTheTape(StateShop shop) {
        Check.put(shop, "xyz");
        Check.due("same(0, 1)", shop.same(0, 1), 1);
        Check.due("the tape", Check.tape(shop), "xyz");
    }

    @Says(at = "Promise 15", words = "Whether two machines take the same words: 1")
    static void sameOfMachinesThatAreNotAlike(StateShop shop) {
        // Other states, another START, and states that are not come to.
        Check.build(shop, 0, "1 3 -0 +2 -1 +2 +4");
        Check.build(shop, 1, "1 0 +1 -0");
        Check.due("same(0, 1)", shop.same(0, 1), 1);
    }

    @Says(at = "Promise 15", words = "comes on the tape (in place of what is there)")
    static void theEmptyWordTellsThem(StateShop shop) {
        Check.put(shop, "xyz");
        shop.accept(1, 0, true);
        Check.due("same(0, 1)", shop.same(0, 1), 0);
        Check.due("bytes()", shop.bytes(), 0);
    }

    @Says(at = "Promise 15", words = "comes on the tape (in place of what is there)")
    static void aWordComesInPlaceOfAFullTape(StateShop shop) {
        Check.read(shop, 0, 2, "ab");
        Check.read(shop, 1, 2, "0");
        Check.put(shop, "x".repeat(500));
        Check.due("same(0, 1)", shop.same(0, 1), 0);
        Check.due("the tape", Check.tape(shop), "ab");
    }

    @Says(at = "Promise 15", words = "the LEAST WORD that just one of them takes")
    static void theLeastWordIsShortest(StateShop shop) {
        Check.read(shop, 0, 2, "aaa|bb");
        Check.read(shop, 1, 2, "aab");
        shop.same(0, 1);
        Check.due("the tape", Check.tape(shop), "bb");
    }

    @Says(at = "Promise 15", words = "the LEAST WORD that just one of them takes")
    static void theLeastWordIsFirstByLetters(StateShop shop) {
        Check.read(shop, 0, 3, "bca|cab");
        Check.read(shop, 1, 3, "bcb|bbc");
        shop.same(0, 1);
        Check.due("the tape", Check.tape(shop), "bbc");
    }

    @Says(at = "Promise 15", words = "the LEAST WORD that just one of them takes")
    static void theLongestLeastWord(StateShop shop) {
        // Machines of n and m states are told apart by n + m - 2 letters or less.
        Check.build(shop, 0, Check.circle(60));
        Check.build(shop, 1, Check.circle(59));
        shop.accept(0, 0, false);
        shop.accept(1, 0, false);
        shop.accept(0, 58, true);
        shop.accept(1, 58, true);
        shop.same(0, 1);
        Check.due("the tape", Check.tape(shop), "a".repeat(117));
    }

    // ---- Promise 16: apart

    @Says(at = "Promise 16", words = "OUTSIDE.")
    static void apartSlotTooSmall(StateShop shop) {
        Check.due("apart(0, 0, 0)", shop.apart(0, 0, 0), NONE);
        Check.due("apart(-1, 0, 0)", shop.apart(-1, 0, 0), OUTSIDE);
        Check.due("apart(least, 0, 0)", shop.apart(LEAST, 0, 0), OUTSIDE);
    }

    @Says(at = "Promise 16", words = "OUTSIDE.")
    static void apartSlotTooLarge(StateShop shop) {
        Check.due("apart(5, 0, 0)", shop.apart(5, 0, 0), NONE);
        Check.due("apart(6, 0, 0)", shop.apart(6, 0, 0), OUTSIDE);
        Check.due("apart(most, 0, 0)", shop.apart(MOST, 0, 0), OUTSIDE);
    }

    @Says(at = "Promise 16", words = "OUTSIDE.")
    static void apartStateTooSmall(StateShop shop) {
        Check.due("apart(0, -1, 0)", shop.apart(0, -1, 0), OUTSIDE);
        Check.due("apart(0, 0, -1)", shop.apart(0, 0, -1), OUTSIDE);
        Check.due("apart(0, -1, -1)", shop.apart(0, -1, -1), OUTSIDE);
        Check.due("apart(0, least, 0)", shop.apart(0, LEAST, 0), OUTSIDE);
        Check.due("apart(0, 0, least)", shop.apart(0, 0, LEAST), OUTSIDE);
    }

    @Says(at = "Promise 16", words = "OUTSIDE.")
    static void apartStateTooLarge(StateShop shop) {
        shop.make(0, 1, 60);
        Check.due("apart(0, 59, 59)", shop.apart(0, 59, 59), NONE);
        Check.due("apart(0, 60, 0)", shop.apart(0, 60, 0), OUTSIDE);
        Check.due("apart(0, 0, 60)", shop.apart(0, 0, 60), OUTSIDE);
        Check.due("apart(0, 60, 60)", shop.apart(0, 60, 60), OUTSIDE);
        shop.make(0, 1, 3);
        Check.due("apart(0, 3, 0) of 3", shop.apart(0, 3, 0), OUTSIDE);
        Check.due("apart(0, 0, 3) of 3", shop.apart(0, 0, 3), OUTSIDE);
        Check.due("apart(0, most, 0)", shop.apart(0, MOST, 0), OUTSIDE);
        Check.due("apart(0, 0, most)", shop.apart(0, 0, MOST), OUTSIDE);
    }

    @Says(at = "Promise 16", words = "NONE: there is none (the tape stays)")
    static void apartOfAStateAndItself(StateShop shop) {
        Check.build(shop, 0, Check.circle(60));
        Check.put(shop, "xyz");
        Check.due("apart(0, 7, 7)", shop.apart(0, 7, 7), NONE);
        Check.due("the tape", Check.tape(shop), "xyz");
    }

    @Says(at = "Promise 16", words = "NONE: there is none (the tape stays)")
    static void apartOfTwoThatAreAlike(StateShop shop) {
        Check.build(shop, 0, "2 0 +1,2 -0,3 -3,0 +2,1");
        Check.put(shop, "xyz");
        Check.due("apart(0, 1, 2)", shop.apart(0, 1, 2), NONE);
        Check.due("the tape", Check.tape(shop), "xyz");
    }

    @Says(at = "Promise 16", words = "OUTSIDE.")
    static void apartRefusedLeavesTheTape(StateShop shop) {
        Check.put(shop, "xyz");
        shop.apart(0, 0, 1);
        shop.apart(6, 0, 0);
        Check.due("the tape", Check.tape(shop), "xyz");
    }

    @Says(at = "Promise 16", words = "comes on the tape: its length")
    static void apartByTheEmptyWord(StateShop shop) {
        Check.build(shop, 0, "1 0 -0 +1");
        Check.put(shop, "xyz");
        Check.due("apart(0, 0, 1)", shop.apart(0, 0, 1), 0);
        Check.due("bytes()", shop.bytes(), 0);
    }

    @Says(at = "Promise 16", words = "comes on the tape: its length")
    static void apartByTheLongestWord(StateShop shop) {
        Check.build(shop, 0, Check.circle(60));
        Check.due("apart(0, 1, 2)", shop.apart(0, 1, 2), 58);
        Check.due("the tape", Check.tape(shop), "a".repeat(58));
    }

    @Says(at = "Promise 16", words = "two states of a machine")
    static void apartOfStatesThatAreNotComeTo(StateShop shop) {
        Check.build(shop, 0, "2 0 -0,0 -2,1 +1,1 -1,1");
        Check.due("apart(0, 1, 3)", shop.apart(0, 1, 3), 1);
        Check.due("the tape", Check.tape(shop), "a");
    }

    @Says(at = "Promise 16", words = "(taken from just one of them)")
    static void apartIsNotAskedFromTheStart(StateShop shop) {
        // From the START 0 neither a nor b is taken.
        Check.build(shop, 0, "2 0 -0,0 -3,0 -0,3 +3,3");
        Check.due("apart(0, 1, 2)", shop.apart(0, 1, 2), 1);
        Check.due("the tape", Check.tape(shop), "a");
    }

    // ---- Promise 17: words

    @Says(at = "Promise 17", words = "NONE: slot, length.")
    static void wordsSlotTooSmall(StateShop shop) {
        Check.due("words(0, 0)", shop.words(0, 0), 0);
        Check.due("words(-1, 0)", shop.words(-1, 0), NONE);
        Check.due("words(least, 0)", shop.words(LEAST, 0), NONE);
    }

    @Says(at = "Promise 17", words = "NONE: slot, length.")
    static void wordsSlotTooLarge(StateShop shop) {
        Check.due("words(5, 0)", shop.words(5, 0), 0);
        Check.due("words(6, 0)", shop.words(6, 0), NONE);
        Check.due("words(most, 0)", shop.words(MOST, 0), NONE);
    }

    @Says(at = "Promise 17", words = "NONE: slot, length.")
    static void wordsLengthTooSmall(StateShop shop) {
        Check.due("words(0, -1)", shop.words(0, -1), NONE);
        Check.due("words(0, least)", shop.words(0, LEAST), NONE);
    }

    @Says(at = "Promise 17", words = "NONE: slot, length.")
    static void wordsLengthTooLarge(StateShop shop) {
        allWords(shop, 0, 1);
        Check.due("words(0, 30)", shop.words(0, 30), 1);
        Check.due("words(0, 31)", shop.words(0, 31), NONE);
        Check.due("words(0, most)", shop.words(0, MOST), NONE);
    }

    @Says(at = "Promise 17", words = "How many words of a length 0 .. 30 it takes.")
    static void wordsOfLength0(StateShop shop) {
        Check.due("not accepting", shop.words(0, 0), 0);
        shop.accept(0, 0, true);
        Check.due("accepting", shop.words(0, 0), 1);
    }

    @Says(at = "Promise 17", words = "How many words of a length 0 .. 30 it takes.")
    static void theMostWordsOfLength30(StateShop shop) {
        allWords(shop, 0, 4);
        Check.due("words(0, 30)", shop.words(0, 30), 1L << 60);
    }

    @Says(at = "Promise 17", words = "How many words of a length 0 .. 30 it takes.")
    static void noWordOfLength30(StateShop shop) {
        Check.build(shop, 0, Check.circle(31));
        Check.due("words(0, 30)", shop.words(0, 30), 0);
        Check.build(shop, 0, Check.circle(30));
        Check.due("words(0, 30)", shop.words(0, 30), 1);
    }

    // ---- Promise 18: word

    @Says(at = "Promise 18", words = "OUTSIDE (slot; i below 0).")
    static void wordSlotTooSmall(StateShop shop) {
        Check.due("word(0, 0)", shop.word(0, 0), NONE);
        Check.due("word(-1, 0)", shop.word(-1, 0), OUTSIDE);
        Check.due("word(least, 0)", shop.word(LEAST, 0), OUTSIDE);
    }

    @Says(at = "Promise 18", words = "OUTSIDE (slot; i below 0).")
    static void wordSlotTooLarge(StateShop shop) {
        Check.due("word(5, 0)", shop.word(5, 0), NONE);
        Check.due("word(6, 0)", shop.word(6, 0), OUTSIDE);
        Check.due("word(most, 0)", shop.word(MOST, 0), OUTSIDE);
    }

    @Says(at = "Promise 18", words = "OUTSIDE (slot; i below 0).")
    static void wordBelow0(StateShop shop) {
        allWords(shop, 0, 1);
        Check.due("word(0, 0)", shop.word(0, 0), 0);
        Check.due("word(0, -1)", shop.word(0, -1), OUTSIDE);
        Check.due("word(0, least)", shop.word(0, Long.MIN_VALUE), OUTSIDE);
    }

    @Says(at = "Promise 18", words = "OUTSIDE (slot; i below 0).")
    static void wordRefusedLeavesTheTape(StateShop shop) {
        allWords(shop, 0, 1);
        Check.put(shop, "xyz");
        shop.word(0, -1);
        shop.word(6, 0);
        Check.due("the tape", Check.tape(shop), "xyz");
    }

    @Says(at = "Promise 18", words = "NONE: there is none of 30 letters or less.")
    static void noWordAtAll(StateShop shop) {
        Check.due("word(0, 0)", shop.word(0, 0), NONE);
        Check.due("word(0, most)", shop.word(0, Long.MAX_VALUE), NONE);
    }

    @Says(at = "Promise 18", words = "NONE: there is none of 30 letters or less.")
    static void aWordOf30And31Letters(StateShop shop) {
        Check.build(shop, 0, Check.circle(30));
        Check.due("word(0, 1) of 30 letters", shop.word(0, 1), 30);
        Check.due("the tape", Check.tape(shop), "a".repeat(30));
        Check.build(shop, 0, Check.circle(31));
        Check.due("word(0, 1) of 31 letters", shop.word(0, 1), NONE);
    }

    @Says(at = "Promise 18", words = "NONE: there is none of 30 letters or less.")
    static void oneBehindTheLastWord(StateShop shop) {
        allWords(shop, 0, 1);
        Check.due("word(0, 30)", shop.word(0, 30), 30);
        Check.due("word(0, 31)", shop.word(0, 31), NONE);
    }

    @Says(at = "Promise 18", words = "NONE: there is none of 30 letters or less.")
    static void theLastOfTheMostWords(StateShop shop) {
        allWords(shop, 0, 4);
        Check.due("the last one", shop.word(0, TO_30 - 1), 30);
        Check.due("the tape", Check.tape(shop), "d".repeat(30));
        Check.due("one behind it", shop.word(0, TO_30), NONE);
        Check.due("the largest number", shop.word(0, Long.MAX_VALUE), NONE);
    }

    @Says(at = "Promise 18", words = "The i-th word that it takes (from 0), in order, comes on the tape: its length")
    static void wordZeroIsTheEmptyWord(StateShop shop) {
        allWords(shop, 0, 2);
        Check.put(shop, "xyz");
        Check.due("word(0, 0)", shop.word(0, 0), 0);
        Check.due("bytes()", shop.bytes(), 0);
    }

    @Says(at = "Terms", words = "shorter ones first")
    static void theFirstWordOfALength(StateShop shop) {
        allWords(shop, 0, 4);
        Check.due("the last of 29 letters", shop.word(0, TO_29 - 1), 29);
        Check.due("the tape", Check.tape(shop), "d".repeat(29));
        Check.due("the first of 30 letters", shop.word(0, TO_29), 30);
        Check.due("the tape", Check.tape(shop), "a".repeat(30));
    }

    @Says(at = "Terms", words = "of like ones by their first letters that are not alike")
    static void wordsOfOneLength(StateShop shop) {
        Check.read(shop, 0, 4, "(ad|ba|bd|da)(a|d)");
        String[] due = {"ada", "add", "baa", "bad", "bda", "bdd", "daa", "dad"};
        for (int i = 0; i < due.length; i++) {
            shop.word(0, i);
            Check.due("word " + i, Check.tape(shop), due[i]);
        }
    }

    // ---- Promise 19: number

    private static long numberOf(StateShop shop, int slot, String word) {
        Check.put(shop, word);
        return shop.number(slot);
    }

    @Says(at = "Promise 19", words = "NONE: slot, not taken, more than 30 letters, a byte is no letter.")
    static void numberSlotTooSmall(StateShop shop) {
        allWords(shop, 0, 1);
        Check.due("number(0)", shop.number(0), 0);
        Check.due("number(-1)", shop.number(-1), NONE);
        Check.due("number(least)", shop.number(LEAST), NONE);
    }

    @Says(at = "Promise 19", words = "NONE: slot, not taken, more than 30 letters, a byte is no letter.")
    static void numberSlotTooLarge(StateShop shop) {
        allWords(shop, 5, 1);
        Check.due("number(5)", shop.number(5), 0);
        Check.due("number(6)", shop.number(6), NONE);
        Check.due("number(most)", shop.number(MOST), NONE);
    }

    @Says(at = "Promise 19", words = "NONE: slot, not taken, more than 30 letters, a byte is no letter.")
    static void numberOfAWordThatIsNotTaken(StateShop shop) {
        Check.due("the empty word of none", shop.number(0), NONE);
        Check.read(shop, 0, 2, "ab*");
        Check.due("ab", numberOf(shop, 0, "ab"), 1);
        Check.due("aba", numberOf(shop, 0, "aba"), NONE);
        Check.due("the empty word", numberOf(shop, 0, ""), NONE);
    }

    @Says(at = "Promise 19", words = "NONE: slot, not taken, more than 30 letters, a byte is no letter.")
    static void numberOf30And31Letters(StateShop shop) {
        allWords(shop, 0, 1);
        Check.due("30 letters", numberOf(shop, 0, "a".repeat(30)), 30);
        Check.due("31 letters", numberOf(shop, 0, "a".repeat(31)), NONE);
        Check.due("500 letters", numberOf(shop, 0, "a".repeat(500)), NONE);
    }

    @Says(at = "Promise 19", words = "NONE: slot, not taken, more than 30 letters, a byte is no letter.")
    static void numberOfAByteThatIsNoLetter(StateShop shop) {
        for (int k = 1; k <= 4; k++) {
            allWords(shop, 0, k);
            Check.due("the last letter of " + k, numberOf(shop, 0, "abcde".substring(k - 1, k)), k);
            Check.due("one behind it", numberOf(shop, 0, "abcde".substring(k, k + 1)), NONE);
            Check.due("one behind it, last", numberOf(shop, 0, "a" + "abcde".charAt(k)), NONE);
        }
        Check.due("`", numberOf(shop, 0, "`"), NONE);
        Check.due("byte 0", numberOf(shop, 0, "\0"), NONE);
        Check.due("byte 255", numberOf(shop, 0, "\u00FF"), NONE);
    }

    @Says(at = "Promise 19", words = "Which word the one on the tape is among those that it takes (from 0)")
    static void numberOfTheEmptyWord(StateShop shop) {
        allWords(shop, 0, 4);
        Check.due("number(0)", shop.number(0), 0);
    }

    @Says(at = "Promise 19", words = "Which word the one on the tape is among those that it takes (from 0)")
    static void numberOfTheLastOfTheMostWords(StateShop shop) {
        allWords(shop, 0, 4);
        Check.due("30 d", numberOf(shop, 0, "d".repeat(30)), TO_30 - 1);
        Check.due("30 a", numberOf(shop, 0, "a".repeat(30)), TO_29);
        Check.due("29 d", numberOf(shop, 0, "d".repeat(29)), TO_29 - 1);
    }

    @Says(at = "Promise 19", words = "Which word the one on the tape is among those that it takes (from 0)")
    static void numberOfTheOnlyWord(StateShop shop) {
        Check.read(shop, 0, 4, "d".repeat(30));
        Check.due("number(0)", numberOf(shop, 0, "d".repeat(30)), 0);
    }

    @Says(at = "Promise 19", words = "The tape stays.")
    static void numberLeavesTheTape(StateShop shop) {
        allWords(shop, 0, 2);
        numberOf(shop, 0, "ba");
        Check.due("behind a number", Check.tape(shop), "ba");
        numberOf(shop, 0, "bc");
        Check.due("behind NONE", Check.tape(shop), "bc");
        numberOf(shop, 1, "aa");
        Check.due("behind one that is not taken", Check.tape(shop), "aa");
    }
}
