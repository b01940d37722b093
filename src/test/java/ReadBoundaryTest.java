/** The boundary cases of part 4 and of promise 13, each by itself. */
public final class ReadBoundaryTest {
    private static final int OUTSIDE = StateShop.OUTSIDE, ROOM = StateShop.ROOM;
    private static final String EMPTY_WORD = "2 0 +1,1 -1,1", NO_WORD = "2 0 -0,0", ALL_WORDS = "2 0 +0,0";
    private static final String BOTH = "both: { post } (none: the empty word)";
    private static final String POST = "post: atom { '*' | '+' | '?' }";
    private static final String FAULT = "A FAULT: -1000 less its place, the first byte that cannot stand, or the end";
    private static final String OPEN = "more than 30 ( and ! open: at it.";
    private static final String ROOM_OF_ONE = "ROOM of one of them is that of the whole (behind all FAULTS)";

    public static void main(String[] args) throws Exception {
        Sentences.run(ReadBoundaryTest.class);
    }

    private static void is(StateShop shop, int k, String expression, String shown) {
        Check.read(shop, 0, k, expression);
        Check.due("read " + expression, Check.show(shop, 0), shown);
    }

    private static void answers(StateShop shop, int k, String expression, int due) {
        Check.due("read " + expression, Check.read(shop, 0, k, expression), due);
    }

    private static void faults(StateShop shop, int k, String expression, int place) {
        answers(shop, k, expression, -1000 - place);
    }

    // ---- Promise 13: wrong inputs, and what stays

    @Says(at = "Promise 13", words = "OUTSIDE (slot, k; the tape stays)")
    static void slotTooSmall(StateShop shop) {
        Check.due("read(0, 1)", shop.read(0, 1), 2);
        Check.due("read(-1, 1)", shop.read(-1, 1), OUTSIDE);
        Check.due("read(least, 1)", shop.read(Integer.MIN_VALUE, 1), OUTSIDE);
    }

    @Says(at = "Promise 13", words = "OUTSIDE (slot, k; the tape stays)")
    static void slotTooLarge(StateShop shop) {
        Check.due("read(5, 1)", shop.read(5, 1), 2);
        Check.due("read(6, 1)", shop.read(6, 1), OUTSIDE);
        Check.due("read(most, 1)", shop.read(Integer.MAX_VALUE, 1), OUTSIDE);
    }

    @Says(at = "Promise 13", words = "OUTSIDE (slot, k; the tape stays)")
    static void kTooSmall(StateShop shop) {
        Check.due("read(0, 0)", shop.read(0, 0), OUTSIDE);
        Check.due("read(0, -1)", shop.read(0, -1), OUTSIDE);
        Check.due("read(0, least)", shop.read(0, Integer.MIN_VALUE), OUTSIDE);
    }

    @Says(at = "Promise 13", words = "OUTSIDE (slot, k; the tape stays)")
    static void kTooLarge(StateShop shop) {
        Check.due("read(0, 4)", shop.read(0, 4), 2);
        Check.due("read(0, 5)", shop.read(0, 5), OUTSIDE);
        Check.due("read(0, most)", shop.read(0, Integer.MAX_VALUE), OUTSIDE);
    }

    @Says(at = "Promise 13", words = "the tape stays")
    static void outsideLeavesTheTape(StateShop shop) {
        Check.put(shop, "a)b");
        for (int[] wrong : new int[][] {{-1, 2}, {6, 2}, {0, 0}, {0, 5}, {6, 0}}) {
            shop.read(wrong[0], wrong[1]);
            Check.due("the tape behind read(" + wrong[0] + ", " + wrong[1] + ")", Check.tape(shop), "a)b");
        }
    }

    @Says(at = "Promise 13", words = "OUTSIDE (slot, k; the tape stays)")
    static void outsideLeavesTheSlot(StateShop shop) {
        Check.build(shop, 0, "2 1 +0,1 -1,0");
        Check.put(shop, "a");
        shop.read(0, 0);
        shop.read(0, 5);
        Check.due("slot 0", Check.show(shop, 0), "2 1 +0,1 -1,0");
    }

    @Says(at = "Promise 13", words = "(FAULT, ROOM: the slot stays.)")
    static void aFaultLeavesTheSlot(StateShop shop) {
        Check.build(shop, 0, "2 1 +0,1 -1,0");
        faults(shop, 2, "ab*)", 3);
        Check.due("slot 0", Check.show(shop, 0), "2 1 +0,1 -1,0");
    }

    @Says(at = "Promise 13", words = "(FAULT, ROOM: the slot stays.)")
    static void roomLeavesTheSlot(StateShop shop) {
        Check.build(shop, 0, "2 1 +0,1 -1,0");
        answers(shop, 1, "a".repeat(59), ROOM);
        Check.due("slot 0", Check.show(shop, 0), "2 1 +0,1 -1,0");
    }

    @Says(at = "Promise 13", words = "its smallest machine is put into a slot: its states")
    static void theSlotMayHaveHadOtherLetters(StateShop shop) {
        shop.make(0, 4, 60);
        answers(shop, 1, "a", 3);
        Check.due("slot 0", Check.show(shop, 0), "1 0 -1 +2 -2");
    }

    // ---- the tape

    @Says(at = "Terms", words = "EXPRESSIONS on the tape (at most 500 bytes, which are used up; no blanks)")
    static void fiveHundredBytes(StateShop shop) {
        is(shop, 2, "a|".repeat(249) + "ab", "2 0 -1,2 +2,3 -2,2 +2,2");
    }

    @Says(at = "Terms", words = "which are used up")
    static void theTapeIsUsedUp(StateShop shop) {
        answers(shop, 2, "ab", 4);
        Check.due("bytes()", shop.bytes(), 0);
    }

    @Says(at = "Terms", words = "which are used up")
    static void theTapeIsUsedUpBehindAFault(StateShop shop) {
        faults(shop, 2, ")aaaa", 0);
        Check.due("bytes()", shop.bytes(), 0);
    }

    @Says(at = "Terms", words = "which are used up")
    static void theTapeIsUsedUpBehindRoom(StateShop shop) {
        answers(shop, 1, "a".repeat(59), ROOM);
        Check.due("bytes()", shop.bytes(), 0);
    }

    @Says(at = "Terms", words = "no blanks")
    static void blanksCannotStand(StateShop shop) {
        faults(shop, 2, " ", 0);
        faults(shop, 2, " a", 0);
        faults(shop, 2, "a b", 1);
        faults(shop, 2, "a ", 1);
        faults(shop, 2, "( )", 1);
        faults(shop, 2, "a\t", 1);
        faults(shop, 2, "a\n", 1);
        faults(shop, 2, "a\0", 1);
    }

    // ---- the empty word

    @Says(at = "Terms", words = BOTH)
    static void anEmptyTapeIsTheEmptyWord(StateShop shop) {
        is(shop, 2, "", EMPTY_WORD);
    }

    @Says(at = "Terms", words = BOTH)
    static void nothingInParenthesesIsTheEmptyWord(StateShop shop) {
        is(shop, 2, "()", EMPTY_WORD);
        is(shop, 2, "a()", "2 0 -1,2 +2,2 -2,2");
        is(shop, 2, "()a", "2 0 -1,2 +2,2 -2,2");
    }

    @Says(at = "Terms", words = BOTH)
    static void nothingBesideABarIsTheEmptyWord(StateShop shop) {
        is(shop, 2, "|", EMPTY_WORD);
        is(shop, 2, "a|", "2 0 +1,2 +2,2 -2,2");
        is(shop, 2, "|a", "2 0 +1,2 +2,2 -2,2");
        is(shop, 2, "a||b", "2 0 +1,1 +2,2 -2,2");
        is(shop, 2, "(|a)b", "2 0 -1,2 -3,2 +3,3 -3,3");
    }

    @Says(at = "Terms", words = BOTH)
    static void nothingBesideAnAndIsTheEmptyWord(StateShop shop) {
        is(shop, 2, "&", EMPTY_WORD);
        is(shop, 2, "a*&", EMPTY_WORD);
        is(shop, 2, "&a*", EMPTY_WORD);
        is(shop, 2, "a&", NO_WORD);
        is(shop, 2, "&a", NO_WORD);
    }

    // ---- what stands behind an atom

    @Says(at = "Terms", words = POST)
    static void aStarCannotStandFirst(StateShop shop) {
        for (String sign : new String[] {"*", "+", "?"}) {
            faults(shop, 2, sign, 0);
            faults(shop, 2, sign + "a", 0);
            faults(shop, 2, "a|" + sign, 2);
            faults(shop, 2, "a&" + sign, 2);
            faults(shop, 2, "(" + sign + ")", 1);
            faults(shop, 2, "!" + sign, 1);
        }
    }

    @Says(at = "Terms", words = POST)
    static void manyStarsMayStand(StateShop shop) {
        is(shop, 2, "a" + "*".repeat(499), "2 0 +0,1 -1,1");
        is(shop, 2, "a" + "+".repeat(499), "2 0 -1,2 +1,2 -2,2");
        is(shop, 2, "a" + "?".repeat(499), "2 0 +1,2 +2,2 -2,2");
    }

    @Says(at = "Terms", words = POST)
    static void aStarIsThatOfTheLastAtomAlone(StateShop shop) {
        is(shop, 2, "ab*", "2 0 -1,2 +2,1 -2,2");
        // Not a, none or more times: only a cannot be made.
        is(shop, 2, "!a*", "2 0 +1,2 -2,2 +2,2");
    }

    @Says(at = "Terms", words = "(+ is it and then *, ? it or the empty word)")
    static void plusOfNoWordAndOfTheEmptyWord(StateShop shop) {
        is(shop, 2, "0+", NO_WORD);
        is(shop, 2, "()+", EMPTY_WORD);
    }

    @Says(at = "Terms", words = "(+ is it and then *, ? it or the empty word)")
    static void queryOfNoWordAndOfAllWords(StateShop shop) {
        is(shop, 2, "0?", EMPTY_WORD);
        is(shop, 2, "(.*)?", ALL_WORDS);
    }

    // ---- atoms

    @Says(at = "Terms", words = "a letter 'a' .. 'd' (below k)")
    static void aLetterMustBeBelowK(StateShop shop) {
        String letters = "abcde";
        for (int k = 1; k <= 4; k++) {
            answers(shop, k, letters.substring(0, k), k + 2);
            faults(shop, k, letters.substring(0, k + 1), k);
        }
    }

    @Says(at = "Terms", words = "a letter 'a' .. 'd' (below k)")
    static void whatStandsBesideTheLettersIsNone(StateShop shop) {
        faults(shop, 4, "`", 0);
        faults(shop, 4, "e", 0);
        faults(shop, 4, "A", 0);
        faults(shop, 4, "a\u00E1", 1);
    }

    @Says(at = "Terms", words = "'.' (each letter)")
    static void aPointIsEachLetterOfK(StateShop shop) {
        is(shop, 1, ".", "1 0 -1 +2 -2");
        is(shop, 4, ".", "4 0 -1,1,1,1 +2,2,2,2 -2,2,2,2");
    }

    @Says(at = "Promise 13", words = "its smallest machine is put into a slot: its states")
    static void eachAtomIsPutAsItsSmallestMachine(StateShop shop) {
        for (int k = 1; k <= 4; k++) {
            for (char atom : "abcd".substring(0, k).concat(".0").toCharArray()) {
                int states = Check.read(shop, 0, k, String.valueOf(atom));
                Check.due("read " + atom + " of " + k, states, atom == '0' ? 1 : 3);
                String shown = Check.show(shop, 0);
                shop.smaller(0, 0);
                Check.due(atom + " of " + k + " made smaller", Check.show(shop, 0), shown);
                for (char letter : "abcd".substring(0, k).toCharArray()) {
                    int due = atom == letter || atom == '.' ? 1 : 0;
                    Check.due(atom + " takes " + letter, Check.takes(shop, 0, String.valueOf(letter)), due);
                }
            }
        }
    }

    @Says(at = "Terms", words = "'0' (no word)")
    static void noWord(StateShop shop) {
        is(shop, 2, "0", NO_WORD);
        is(shop, 2, "a0", NO_WORD);
        is(shop, 2, "0*", EMPTY_WORD);
        faults(shop, 2, "1", 0);
    }

    @Says(at = "Terms", words = "'(' any ')'")
    static void aParenthesisThatIsNotClosed(StateShop shop) {
        faults(shop, 2, "(", 1);
        faults(shop, 2, "(a", 2);
        faults(shop, 2, "((a)", 4);
    }

    @Says(at = "Terms", words = "'(' any ')'")
    static void aParenthesisThatIsNotOpen(StateShop shop) {
        faults(shop, 2, ")", 0);
        faults(shop, 2, "a)", 1);
        faults(shop, 2, "(a))", 3);
    }

    @Says(at = "Terms", words = "'!' atom (not taken)")
    static void notOfNothing(StateShop shop) {
        faults(shop, 2, "!", 1);
        faults(shop, 2, "!!", 2);
        faults(shop, 2, "!)", 1);
        faults(shop, 2, "(!)", 2);
        faults(shop, 2, "!|", 1);
        faults(shop, 2, "!&", 1);
    }

    @Says(at = "Terms", words = "'!' atom (not taken)")
    static void notOfNoWordAndOfTheEmptyWord(StateShop shop) {
        is(shop, 2, "!0", ALL_WORDS);
        is(shop, 2, "!()", "2 0 -1,1 +1,1");
    }

    @Says(at = "Terms", words = "'!' atom (not taken)")
    static void notIsOfOneAtomAlone(StateShop shop) {
        // All but a, and then a.
        is(shop, 1, "!aa", "1 0 -1 +2 -3 +3");
        is(shop, 2, "!0&a", "2 0 -1,2 +2,2 -2,2");
    }

    // ---- FAULTS

    @Says(at = "Terms", words = FAULT)
    static void theFirstByteCannotStand(StateShop shop) {
        faults(shop, 2, "x", 0);
    }

    @Says(at = "Terms", words = FAULT)
    static void theLastByteOf500CannotStand(StateShop shop) {
        faults(shop, 2, "a|".repeat(249) + "ax", 499);
    }

    @Says(at = "Terms", words = FAULT)
    static void theEnd(StateShop shop) {
        faults(shop, 2, "(", 1);
        faults(shop, 2, "a|(b", 4);
    }

    @Says(at = "Terms", words = FAULT)
    static void theEndOf500(StateShop shop) {
        faults(shop, 2, "a|".repeat(249) + "a(", 500);
    }

    @Says(at = "Terms", words = FAULT)
    static void onlyTheFirstFaultIsTold(StateShop shop) {
        faults(shop, 2, "a)x((", 1);
        faults(shop, 2, "((x)x)x", 2);
        faults(shop, 2, "(!)!)", 2);
    }

    @Says(at = "Terms", words = OPEN)
    static void thirtyParenthesesAreOpen(StateShop shop) {
        is(shop, 2, "(".repeat(30) + ")".repeat(30), EMPTY_WORD);
    }

    @Says(at = "Terms", words = OPEN)
    static void thirtyOneParenthesesAreOpen(StateShop shop) {
        faults(shop, 2, "(".repeat(31) + ")".repeat(31), 30);
        faults(shop, 2, "a|b" + "(".repeat(31), 33);
    }

    @Says(at = "Terms", words = OPEN)
    static void thirtyNotsAreOpen(StateShop shop) {
        is(shop, 2, "!".repeat(30) + "0", NO_WORD);
    }

    @Says(at = "Terms", words = OPEN)
    static void thirtyOneNotsAreOpen(StateShop shop) {
        faults(shop, 2, "!".repeat(31) + "0", 30);
        faults(shop, 2, "a|b" + "!".repeat(31), 33);
    }

    @Says(at = "Terms", words = OPEN)
    static void bothAreCountedTogether(StateShop shop) {
        is(shop, 2, "!(".repeat(15) + "0" + ")".repeat(15), ALL_WORDS);
        faults(shop, 2, "!(".repeat(15) + "!0" + ")".repeat(15), 30);
        faults(shop, 2, "!(".repeat(15) + "(0)" + ")".repeat(15), 30);
    }

    @Says(at = "Terms", words = OPEN)
    static void whatIsClosedIsNotOpen(StateShop shop) {
        is(shop, 2, "()".repeat(250), EMPTY_WORD);
        is(shop, 2, "!0".repeat(250), ALL_WORDS);
        is(shop, 2, "(".repeat(29) + "!0(!0)!0" + ")".repeat(29), ALL_WORDS);
    }

    // ---- ROOM

    @Says(at = "Terms", words = "Each part is made as its machine is joined from theirs")
    static void sixtyAnd61StatesBehindOneAnother(StateShop shop) {
        answers(shop, 1, "a".repeat(58), 60);
        answers(shop, 1, "a".repeat(59), ROOM);
    }

    @Says(at = "Terms", words = "Each part is made as its machine is joined from theirs")
    static void sixtyAnd61StatesOfBoth(StateShop shop) {
        // Circles of 4 and 15; and one of 60 without the empty word.
        answers(shop, 1, "(aaaa)*&(" + "a".repeat(15) + ")*", 60);
        answers(shop, 1, "(aaaa)*&(" + "a".repeat(15) + ")*&.+", ROOM);
    }

    @Says(at = "Terms", words = "Each part is made as its machine is joined from theirs")
    static void sixtyAnd61StatesOfOneOrBoth(StateShop shop) {
        String circle = "!((aaaa)*&(" + "a".repeat(15) + ")*)";
        answers(shop, 1, circle, 60);
        answers(shop, 1, circle + "|", ROOM);
    }

    @Says(at = "Terms", words = "Each part is made as its machine is joined from theirs")
    static void sixtyAnd61StatesOfAQuery(StateShop shop) {
        String circle = "!((aaaa)*&(" + "a".repeat(15) + ")*)";
        answers(shop, 1, "(" + circle + ")", 60);
        answers(shop, 1, circle + "?", ROOM);
    }

    @Says(at = "Terms", words = "Each part is made as its machine is joined from theirs")
    static void sixtyAnd61StatesOfAStar(StateShop shop) {
        answers(shop, 1, "((aaaa)*&(" + "a".repeat(15) + ")*)*", 60);
        answers(shop, 1, "(aaaaa|" + "a".repeat(16) + ")*", ROOM);
    }

    @Says(at = "Terms", words = "Each part is made as its machine is joined from theirs")
    static void moreThan500SetsBehindOneAnother(StateShop shop) {
        answers(shop, 2, ".*(|a.......)", 1);
        answers(shop, 2, ".*(|a........)", ROOM);
    }

    @Says(at = "Terms", words = "Each part is made as its machine is joined from theirs")
    static void moreThan500SetsOfAStar(StateShop shop) {
        answers(shop, 2, "(.|a........)*", 1);
        answers(shop, 2, "(.|a.........)*", ROOM);
    }

    @Says(at = "Terms", words = "(+ is it and then *, ? it or the empty word)")
    static void moreThan500SetsOfThePlussStar(StateShop shop) {
        answers(shop, 2, "(.|a........)+", 2);
        answers(shop, 2, "(.|a.........)+", ROOM);
    }

    @Says(at = "Terms", words = ROOM_OF_ONE)
    static void roomOfAPartThatIsNotNeeded(StateShop shop) {
        String room = "a".repeat(59);
        answers(shop, 1, "0&" + room, ROOM);
        answers(shop, 1, room + "&0", ROOM);
        answers(shop, 1, ".*|" + room, ROOM);
        answers(shop, 1, "0(" + room + ")", ROOM);
        answers(shop, 1, "(" + room + ")0", ROOM);
        answers(shop, 1, "!(" + room + ")", ROOM);
        answers(shop, 1, "(" + room + ")*", ROOM);
    }

    @Says(at = "Terms", words = ROOM_OF_ONE)
    static void aFaultBehindRoom(StateShop shop) {
        faults(shop, 1, "a".repeat(59) + ")", 59);
        faults(shop, 1, "a".repeat(499) + "b", 499);
    }

    @Says(at = "Terms", words = ROOM_OF_ONE)
    static void theEndBehindRoom(StateShop shop) {
        faults(shop, 1, "(" + "a".repeat(59), 60);
        faults(shop, 1, "a".repeat(499) + "!", 500);
    }

    @Says(at = "Terms", words = ROOM_OF_ONE)
    static void tooManyOpenBehindRoom(StateShop shop) {
        faults(shop, 1, "a".repeat(59) + "(".repeat(31), 89);
        faults(shop, 1, "a".repeat(59) + "!".repeat(31), 89);
    }

    @Says(at = "Terms", words = ROOM_OF_ONE)
    static void roomIsForgottenByTheNextRead(StateShop shop) {
        answers(shop, 1, "a".repeat(59), ROOM);
        answers(shop, 1, "aa", 4);
        faults(shop, 1, ")", 0);
        answers(shop, 1, "aaa", 5);
    }
}
