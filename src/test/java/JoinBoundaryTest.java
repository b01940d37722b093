/** The boundary cases of part 3 and of promise 10, each by itself. */
public final class JoinBoundaryTest {
    private static final int OUTSIDE = StateShop.OUTSIDE, STATE = StateShop.STATE, ROOM = StateShop.ROOM;
    private static final int LEAST = Integer.MIN_VALUE, MOST = Integer.MAX_VALUE;
    private static final String ONLY_EMPTY = "1 0 +1 -1";
    private static final String ALL_BUT_EMPTY = "1 0 -1 +1";
    private static final String ROOM_IF_PUT = "ROOM, too, if the smallest one has more than 60 states.";

    public static void main(String[] args) throws Exception {
        Sentences.run(JoinBoundaryTest.class);
    }

    private static void joins(StateShop shop, int how, String a, String b, int due) {
        Check.build(shop, 0, a);
        Check.build(shop, 1, b);
        Check.due("join(2, " + how + ", 0, 1)", shop.join(2, how, 0, 1), due);
    }

    /** A circle in which all but state 0 are accepting. */
    private static String allBut0(int n) {
        return Check.circle(n).replace('+', '*').replace('-', '+').replace('*', '-');
    }

    /** One letter; the word of so many letters alone is taken. */
    private static String justLength(int length) {
        StringBuilder text = new StringBuilder("1 0");
        for (int s = 0; s < length + 2; s++) {
            text.append(s == length ? " +" : " -").append(Math.min(s + 1, length + 1));
        }
        return text.toString();
    }

    // ---- wrong inputs

    @Says(at = "Promise 10", words = "OUTSIDE (slots, how 0 .. 7)")
    static void slotTooSmall(StateShop shop) {
        Check.due("join(0, 0, 0, 0)", shop.join(0, 0, 0, 0), 1);
        Check.due("join(-1, 0, 0, 0)", shop.join(-1, 0, 0, 0), OUTSIDE);
        Check.due("join(-1, 7, 0, 0)", shop.join(-1, 7, 0, 0), OUTSIDE);
        Check.due("join(least, 0, 0, 0)", shop.join(LEAST, 0, 0, 0), OUTSIDE);
    }

    @Says(at = "Promise 10", words = "OUTSIDE (slots, how 0 .. 7)")
    static void slotTooLarge(StateShop shop) {
        Check.due("join(5, 0, 0, 0)", shop.join(5, 0, 0, 0), 1);
        Check.due("join(6, 0, 0, 0)", shop.join(6, 0, 0, 0), OUTSIDE);
        Check.due("join(6, 7, 0, 0)", shop.join(6, 7, 0, 0), OUTSIDE);
        Check.due("join(most, 0, 0, 0)", shop.join(MOST, 0, 0, 0), OUTSIDE);
    }

    @Says(at = "Promise 10", words = "OUTSIDE (slots, how 0 .. 7)")
    static void howTooSmall(StateShop shop) {
        Check.due("join(0, -1, 0, 0)", shop.join(0, -1, 0, 0), OUTSIDE);
        Check.due("join(0, least, 0, 0)", shop.join(0, LEAST, 0, 0), OUTSIDE);
    }

    @Says(at = "Promise 10", words = "OUTSIDE (slots, how 0 .. 7)")
    static void howTooLarge(StateShop shop) {
        Check.due("join(0, 7, 0, 0)", shop.join(0, 7, 0, 0), 1);
        Check.due("join(0, 8, 0, 0)", shop.join(0, 8, 0, 0), OUTSIDE);
        Check.due("join(0, most, 0, 0)", shop.join(0, MOST, 0, 0), OUTSIDE);
    }

    @Says(at = "Promise 10", words = "OUTSIDE (slots, how 0 .. 7)")
    static void aTooSmall(StateShop shop) {
        for (int how = 0; how < 8; how++) {
            Check.due("join(0, " + how + ", -1, 0)", shop.join(0, how, -1, 0), OUTSIDE);
            Check.due("join(0, " + how + ", least, 0)", shop.join(0, how, LEAST, 0), OUTSIDE);
        }
    }

    @Says(at = "Promise 10", words = "OUTSIDE (slots, how 0 .. 7)")
    static void aTooLarge(StateShop shop) {
        Check.due("join(0, 0, 5, 0)", shop.join(0, 0, 5, 0), 1);
        for (int how = 0; how < 8; how++) {
            Check.due("join(0, " + how + ", 6, 0)", shop.join(0, how, 6, 0), OUTSIDE);
            Check.due("join(0, " + how + ", most, 0)", shop.join(0, how, MOST, 0), OUTSIDE);
        }
    }

    @Says(at = "Promise 10", words = "OUTSIDE (slots, how 0 .. 7)")
    static void bTooSmall(StateShop shop) {
        for (int how = 0; how < 5; how++) {
            Check.due("join(0, " + how + ", 0, -1)", shop.join(0, how, 0, -1), OUTSIDE);
            Check.due("join(0, " + how + ", 0, least)", shop.join(0, how, 0, LEAST), OUTSIDE);
        }
    }

    @Says(at = "Promise 10", words = "OUTSIDE (slots, how 0 .. 7)")
    static void bTooLarge(StateShop shop) {
        Check.due("join(0, 0, 0, 5)", shop.join(0, 0, 0, 5), 1);
        for (int how = 0; how < 5; how++) {
            Check.due("join(0, " + how + ", 0, 6)", shop.join(0, how, 0, 6), OUTSIDE);
            Check.due("join(0, " + how + ", 0, most)", shop.join(0, how, 0, MOST), OUTSIDE);
        }
    }

    @Says(at = "Promise 10", words = "OUTSIDE (slots, how 0 .. 7)")
    static void outsideChangesNothing(StateShop shop) {
        Check.build(shop, 0, "1 1 +0 -1");
        for (int[] wrong : new int[][] {{8, 0, 0}, {-1, 0, 0}, {1, 6, 0}, {1, -1, 0}, {1, 0, 6}, {1, 0, -1}}) {
            shop.join(0, wrong[0], wrong[1], wrong[2]);
            Check.due("slot 0 behind how " + wrong[0] + " of " + wrong[1] + " and " + wrong[2], Check.show(shop, 0),
                "1 1 +0 -1");
        }
    }

    @Says(at = "Promise 10", words = "STATE (not the same k)")
    static void notTheSameK(StateShop shop) {
        shop.make(0, 2, 1);
        for (int how = 0; how < 5; how++) {
            Check.due("join(2, " + how + ", 0, 1): 2 and 1 letters", shop.join(2, how, 0, 1), STATE);
            Check.due("join(2, " + how + ", 1, 0): 1 and 2 letters", shop.join(2, how, 1, 0), STATE);
        }
    }

    @Says(at = "Promise 10", words = "STATE (not the same k)")
    static void theLettersOfTheSlotItselfDoNotMatter(StateShop shop) {
        shop.make(0, 4, 60);
        Check.due("join(0, 1, 1, 1)", shop.join(0, 1, 1, 1), 1);
        Check.due("slot 0", Check.show(shop, 0), "1 0 -0");
    }

    @Says(at = "Promise 10", words = "STATE (not the same k)")
    static void stateChangesNothing(StateShop shop) {
        Check.build(shop, 0, "2 1 +0,0 -1,0");
        for (int how = 0; how < 5; how++) {
            shop.join(0, how, 0, 1);
            Check.due("slot 0 behind how " + how, Check.show(shop, 0), "2 1 +0,0 -1,0");
            shop.join(1, how, 0, 1);
            Check.due("slot 1 behind how " + how, Check.show(shop, 1), "1 0 -0");
        }
    }

    @Says(at = "Terms", words = "(5, 6, 7: b is not asked)")
    static void bMayHaveOtherLetters(StateShop shop) {
        shop.make(0, 2, 1);
        Check.due("join(2, 5, 0, 1)", shop.join(2, 5, 0, 1), 2);
        Check.due("join(2, 6, 0, 1)", shop.join(2, 6, 0, 1), 1);
        Check.due("join(2, 7, 0, 1)", shop.join(2, 7, 0, 1), 1);
    }

    @Says(at = "Terms", words = "(5, 6, 7: b is not asked)")
    static void bMayBeNoSlot(StateShop shop) {
        Check.due("join(2, 5, 0, 6)", shop.join(2, 5, 0, 6), 2);
        Check.due("join(2, 6, 0, -1)", shop.join(2, 6, 0, -1), 1);
        Check.due("join(2, 7, 0, most)", shop.join(2, 7, 0, MOST), 1);
    }

    @Says(at = "Promise 10", words = "put into a slot (it may be one of them)")
    static void theSlotMayBeA(StateShop shop) {
        int[] due = {1, 4, 3, 4, 5, 2, 3, 3};
        for (int how = 0; how < 8; how++) {
            Check.read(shop, 0, 2, "a");
            Check.read(shop, 1, 2, "bb");
            shop.join(2, how, 0, 1);
            Check.due("join(0, " + how + ", 0, 1)", shop.join(0, how, 0, 1), due[how]);
            Check.due("it is as in another slot, how " + how, Check.show(shop, 0), Check.show(shop, 2));
        }
    }

    @Says(at = "Promise 10", words = "put into a slot (it may be one of them)")
    static void theSlotMayBeB(StateShop shop) {
        int[] due = {1, 4, 3, 4, 5, 2, 3, 3};
        for (int how = 0; how < 8; how++) {
            Check.read(shop, 0, 2, "a");
            Check.read(shop, 1, 2, "bb");
            shop.join(2, how, 0, 1);
            Check.due("join(1, " + how + ", 0, 1)", shop.join(1, how, 0, 1), due[how]);
            Check.due("it is as in another slot, how " + how, Check.show(shop, 1), Check.show(shop, 2));
        }
    }

    @Says(at = "Promise 10", words = "put into a slot (it may be one of them)")
    static void theSlotMayBeBothOfThem(StateShop shop) {
        int[] due = {4, 4, 1, 1, 6, 3, 4, 4};
        for (int how = 0; how < 8; how++) {
            Check.read(shop, 0, 2, "ab");
            shop.join(1, how, 0, 0);
            Check.due("join(0, " + how + ", 0, 0)", shop.join(0, how, 0, 0), due[how]);
            Check.due("it is as in another slot, how " + how, Check.show(shop, 0), Check.show(shop, 1));
        }
    }

    // ---- pairs

    @Says(at = "Terms", words = "0 to 3 by pairs: never more than 3600.")
    static void all3600PairsAreNotTooMany(StateShop shop) {
        shop.make(0, 2, 60);
        shop.make(1, 2, 60);
        for (int s = 0; s < 60; s++) {
            shop.edge(0, s, 0, (s + 1) % 60);
            shop.edge(1, s, 1, (s + 1) % 60);
        }
        for (int how = 0; how < 4; how++) {
            Check.due("join(2, " + how + ", 0, 1), no word", shop.join(2, how, 0, 1), 1);
        }
        shop.accept(0, 59, true);
        int[] due = {1, 60, 60, 60};
        for (int how = 0; how < 4; how++) {
            Check.due("join(2, " + how + ", 0, 1), words of a", shop.join(2, how, 0, 1), due[how]);
        }
    }

    // ---- 60 states and one more

    @Says(at = "Terms", words = ROOM_IF_PUT)
    static void sixtyAnd61WordsOfBoth(StateShop shop) {
        joins(shop, 0, Check.circle(59), ALL_BUT_EMPTY, 60);
        joins(shop, 0, Check.circle(60), ALL_BUT_EMPTY, ROOM);
    }

    @Says(at = "Terms", words = ROOM_IF_PUT)
    static void sixtyAnd61WordsOfOneOrBoth(StateShop shop) {
        joins(shop, 1, allBut0(59), ONLY_EMPTY, 60);
        joins(shop, 1, allBut0(60), ONLY_EMPTY, ROOM);
    }

    @Says(at = "Terms", words = ROOM_IF_PUT)
    static void sixtyAnd61WordsOfANotOfB(StateShop shop) {
        joins(shop, 2, Check.circle(59), ONLY_EMPTY, 60);
        joins(shop, 2, Check.circle(60), ONLY_EMPTY, ROOM);
    }

    @Says(at = "Terms", words = ROOM_IF_PUT)
    static void sixtyAnd61WordsOfJustOne(StateShop shop) {
        joins(shop, 3, Check.circle(59), ONLY_EMPTY, 60);
        joins(shop, 3, Check.circle(60), ONLY_EMPTY, ROOM);
    }

    @Says(at = "Terms", words = ROOM_IF_PUT)
    static void sixtyAnd61OneBehindTheOther(StateShop shop) {
        joins(shop, 4, justLength(58), justLength(0), 60);
        joins(shop, 4, justLength(58), justLength(1), ROOM);
        joins(shop, 4, justLength(29), justLength(29), 60);
        joins(shop, 4, justLength(29), justLength(30), ROOM);
    }

    @Says(at = "Terms", words = ROOM_IF_PUT)
    static void sixtyAnd61NoneOrMore(StateShop shop) {
        joins(shop, 5, Check.circle(60), ONLY_EMPTY, 60);
        // Of 5 and 16 all but 59 can be added up from 60 on.
        Check.read(shop, 0, 1, "a".repeat(5) + "|" + "a".repeat(16));
        Check.due("join(2, 5, 0, 0)", shop.join(2, 5, 0, 0), ROOM);
    }

    @Says(at = "Terms", words = ROOM_IF_PUT)
    static void sixtyAnd61Turned(StateShop shop) {
        joins(shop, 6, Found.TURNS_TO_60, ONLY_EMPTY, 60);
        joins(shop, 6, Found.TURNS_TO_61, ONLY_EMPTY, ROOM);
    }

    @Says(at = "Terms", words = "7 words that a does not take")
    static void sixtyNotTaken(StateShop shop) {
        joins(shop, 7, Check.circle(60), ONLY_EMPTY, 60);
        Check.due("slot 2", Check.show(shop, 2), allBut0(60));
    }

    // ---- 500 sets and one more; the smallest one would be small

    @Says(at = "Terms", words = "ROOM, if more than 500 are met")
    static void fiveHundredSetsOf4(StateShop shop) {
        joins(shop, 4, Found.THEN_500_A, Found.THEN_500_B, 1);
    }

    @Says(at = "Terms", words = "ROOM, if more than 500 are met")
    static void fiveHundredAndOneSetsOf4(StateShop shop) {
        joins(shop, 4, Found.THEN_501_A, Found.THEN_501_B, ROOM);
    }

    @Says(at = "Terms", words = "ROOM, if more than 500 are met")
    static void fiveHundredSetsOf5(StateShop shop) {
        joins(shop, 5, Found.AGAIN_500, ONLY_EMPTY, 1);
    }

    @Says(at = "Terms", words = "ROOM, if more than 500 are met")
    static void fiveHundredAndOneSetsOf5(StateShop shop) {
        joins(shop, 5, Found.AGAIN_501, ONLY_EMPTY, ROOM);
    }

    @Says(at = "Terms", words = "ROOM, if more than 500 are met")
    static void fiveHundredSetsOf6(StateShop shop) {
        joins(shop, 6, Found.from(10, Found.TURNS_TO_500) + " -10,10", ONLY_EMPTY, 1);
    }

    @Says(at = "Terms", words = "ROOM, if more than 500 are met")
    static void fiveHundredAndOneSetsOf6(StateShop shop) {
        joins(shop, 6, Found.from(11, Found.TURNS_TO_501) + " -11,11", ONLY_EMPTY, ROOM);
    }

    // ---- behind ROOM

    @Says(at = "Promise 10", words = "ROOM (nothing changes)")
    static void nothingChangesBehindRoomOfStates(StateShop shop) {
        Check.build(shop, 2, "2 1 +0,1 +1,1");
        joins(shop, 2, Check.circle(60), ONLY_EMPTY, ROOM);
        Check.due("slot 2", Check.show(shop, 2), "2 1 +0,1 +1,1");
        Check.due("into a: join(0, 2, 0, 1)", shop.join(0, 2, 0, 1), ROOM);
        Check.due("slot 0", Check.show(shop, 0), Check.circle(60));
        Check.due("into b: join(1, 2, 0, 1)", shop.join(1, 2, 0, 1), ROOM);
        Check.due("slot 1", Check.show(shop, 1), ONLY_EMPTY);
    }

    @Says(at = "Promise 10", words = "ROOM (nothing changes)")
    static void nothingChangesBehindRoomOfSets(StateShop shop) {
        Check.build(shop, 2, "1 1 +0 +1");
        joins(shop, 4, Found.THEN_501_A, Found.THEN_501_B, ROOM);
        Check.due("slot 2", Check.show(shop, 2), "1 1 +0 +1");
        Check.due("into a: join(0, 4, 0, 1)", shop.join(0, 4, 0, 1), ROOM);
        Check.due("slot 0", Check.show(shop, 0), Found.THEN_501_A);
        Check.due("into b: join(1, 4, 0, 1)", shop.join(1, 4, 0, 1), ROOM);
        Check.due("slot 1", Check.show(shop, 1), Found.THEN_501_B);
    }

    // ---- no word, the empty word, all words

    @Says(at = "Terms", words = "3 of just one")
    static void justOneOfTheSame(StateShop shop) {
        joins(shop, 3, Check.circle(60), Check.circle(60), 1);
        Check.due("slot 2", Check.show(shop, 2), "1 0 -0");
    }

    @Says(at = "Terms", words = "TURNED: sets of states; the first is all accepting ones")
    static void turnedWithoutAccepting(StateShop shop) {
        joins(shop, 6, "1 0 -1 -2 -0", ONLY_EMPTY, 1);
        Check.due("slot 2", Check.show(shop, 2), "1 0 -0");
    }

    @Says(at = "Terms", words = "TURNED: sets of states; the first is all accepting ones")
    static void turnedWithAllAccepting(StateShop shop) {
        joins(shop, 6, "1 0 +1 +2 +0", ONLY_EMPTY, 1);
        Check.due("slot 2", Check.show(shop, 2), "1 0 +0");
    }

    @Says(at = "Terms", words = "accepting are those with the START")
    static void turnedOfAnAcceptingStart(StateShop shop) {
        // (ab)* from START 1: from behind (ba)*.
        joins(shop, 6, "2 1 -2,1 +0,2 -2,2", "2 0 -0,0", 3);
        Check.due("slot 2", Check.show(shop, 2), "2 0 +1,2 -1,1 -0,1");
    }

    @Says(at = "Terms", words = "the START of b is in it, whenever a's state is accepting (at first, too)")
    static void thenBehindTheEmptyWordOfA(StateShop shop) {
        joins(shop, 4, ONLY_EMPTY, justLength(1), 3);
        Check.due("slot 2", Check.show(shop, 2), justLength(1));
    }

    @Says(at = "Terms", words = "accepting: a set with an accepting state of b")
    static void thenIsNotAcceptingForAAlone(StateShop shop) {
        joins(shop, 4, "1 0 +0", justLength(1), 2);
        Check.due("slot 2", Check.show(shop, 2), ALL_BUT_EMPTY);
    }

    @Says(at = "Terms", words = "4 a word of a and then one of b")
    static void thenWithoutAWordOfOne(StateShop shop) {
        joins(shop, 4, "1 0 -0", Check.circle(60), 1);
        Check.due("no word of a", Check.show(shop, 2), "1 0 -0");
        joins(shop, 4, Check.circle(60), "1 0 -0", 1);
        Check.due("no word of b", Check.show(shop, 2), "1 0 -0");
    }

    @Says(at = "Terms", words = "at first none, accepting")
    static void noneOfNoWords(StateShop shop) {
        joins(shop, 5, "1 0 -0", ONLY_EMPTY, 2);
        Check.due("slot 2", Check.show(shop, 2), ONLY_EMPTY);
    }

    @Says(at = "Terms", words = "a's START comes in, if one that came is accepting")
    static void againBehindAWord(StateShop shop) {
        joins(shop, 5, justLength(3), ONLY_EMPTY, 3);
        Check.due("slot 2", Check.show(shop, 2), Check.circle(3));
    }

    @Says(at = "Terms", words = "(the first set is none of these others)")
    static void aStartThatIsComeToAgainIsNotTheFirstSet(StateShop shop) {
        // By a the START is come to, which is not accepting.
        joins(shop, 5, "2 0 -0,1 +1,1", "2 0 -0,0", 3);
        Check.due("slot 2", Check.show(shop, 2), "2 0 +1,2 -1,2 +2,2");
    }

    @Says(at = "Terms", words = "7 words that a does not take")
    static void notOfNoWordAndOfAllWords(StateShop shop) {
        joins(shop, 7, "4 0 -0,0,0,0", ONLY_EMPTY, 1);
        Check.due("not of no word", Check.show(shop, 2), "4 0 +0,0,0,0");
        joins(shop, 7, "4 0 +0,0,0,0", ONLY_EMPTY, 1);
        Check.due("not of all words", Check.show(shop, 2), "4 0 -0,0,0,0");
    }
}
