/** The boundary cases of part 2 and of promise 9, each by itself. */
public final class SmallerBoundaryTest {
    private static final int OUTSIDE = StateShop.OUTSIDE, ROOM = StateShop.ROOM;
    /** Only state 0 is come to; the others would need three rounds and three pairs, and turn to four sets. */
    private static final String MORE_NOT_COME_TO = "1 0 +0 -2 -3 -4 +4";

    public static void main(String[] args) throws Exception {
        Sentences.run(SmallerBoundaryTest.class);
    }

    private static void shrinks(StateShop shop, String shown, int way, int told, String small) {
        Check.build(shop, 0, shown);
        Check.due("smaller(0, " + way + ")", shop.smaller(0, way), told);
        Check.due("slot 0", Check.show(shop, 0), small);
    }

    /** All states go to one another in a circle, by all letters; all or none are accepting. */
    private static String alike(int k, int n, char sign) {
        StringBuilder text = new StringBuilder(k + " 0");
        for (int s = 0; s < n; s++) {
            text.append(' ').append(sign).append(("," + (s + 1) % n).repeat(k).substring(1));
        }
        return text.toString();
    }

    /** Each state goes to the next one, the last to itself; only the last one is accepting. */
    private static String chain(int n) {
        StringBuilder text = new StringBuilder("1 0");
        for (int s = 0; s < n; s++) {
            text.append(s == n - 1 ? " +" : " -").append(Math.min(s + 1, n - 1));
        }
        return text.toString();
    }

    // ---- all ways

    @Says(at = "Promise 9", words = "OUTSIDE, ROOM.")
    static void slotTooSmall(StateShop shop) {
        Check.due("smaller(0, 0)", shop.smaller(0, 0), 1);
        Check.due("smaller(-1, 0)", shop.smaller(-1, 0), OUTSIDE);
        Check.due("smaller(least, 0)", shop.smaller(Integer.MIN_VALUE, 0), OUTSIDE);
    }

    @Says(at = "Promise 9", words = "OUTSIDE, ROOM.")
    static void slotTooLarge(StateShop shop) {
        Check.due("smaller(5, 0)", shop.smaller(5, 0), 1);
        Check.due("smaller(6, 0)", shop.smaller(6, 0), OUTSIDE);
        Check.due("smaller(most, 0)", shop.smaller(Integer.MAX_VALUE, 0), OUTSIDE);
    }

    @Says(at = "Promise 9", words = "OUTSIDE, ROOM.")
    static void wayTooSmall(StateShop shop) {
        Check.due("smaller(0, -1)", shop.smaller(0, -1), OUTSIDE);
        Check.due("smaller(0, least)", shop.smaller(0, Integer.MIN_VALUE), OUTSIDE);
    }

    @Says(at = "Promise 9", words = "OUTSIDE, ROOM.")
    static void wayTooLarge(StateShop shop) {
        Check.due("smaller(0, 2)", shop.smaller(0, 2), 1);
        Check.due("smaller(0, 3)", shop.smaller(0, 3), OUTSIDE);
        Check.due("smaller(0, most)", shop.smaller(0, Integer.MAX_VALUE), OUTSIDE);
    }

    @Says(at = "Promise 9", words = "OUTSIDE, ROOM.")
    static void refusedChangesNothing(StateShop shop) {
        Check.build(shop, 0, MORE_NOT_COME_TO);
        shop.smaller(0, -1);
        Check.due("slot 0 behind way -1", Check.show(shop, 0), MORE_NOT_COME_TO);
        shop.smaller(0, 3);
        Check.due("slot 0 behind way 3", Check.show(shop, 0), MORE_NOT_COME_TO);
    }

    @Says(at = "Terms", words = "all put the smallest one into its slot")
    static void sixtyThatAreAllAlike(StateShop shop) {
        for (int way = 0; way < 3; way++) {
            Check.build(shop, 0, alike(4, 60, '+'));
            shop.smaller(0, way);
            Check.due("by way " + way, Check.show(shop, 0), "4 0 +0,0,0,0");
        }
    }

    @Says(at = "Terms", words = "all put the smallest one into its slot")
    static void sixtyThatAreAllToldApart(StateShop shop) {
        for (int way = 0; way < 3; way++) {
            Check.build(shop, 0, Check.circle(60));
            shop.smaller(0, way);
            Check.due("by way " + way, Check.show(shop, 0), Check.circle(60));
        }
    }

    @Says(at = "Terms", words = "SMALLEST is the machine in order")
    static void theSmallestIsInOrderToo(StateShop shop) {
        for (int way = 0; way < 3; way++) {
            // START 3; 1 and 2 are alike; nothing comes to 4.
            Check.build(shop, 0, "2 3 +0,0 -0,3 -0,3 -2,3 -3,3");
            shop.smaller(0, way);
            Check.due("by way " + way, Check.show(shop, 0), "2 0 -1,0 -2,0 +2,2");
        }
    }

    @Says(at = "Terms", words = "Looked at are the states of the machine in order.")
    static void whatIsNotComeToMakesNoRound(StateShop shop) {
        shrinks(shop, MORE_NOT_COME_TO, 0, 1, "1 0 +0");
    }

    @Says(at = "Terms", words = "Looked at are the states of the machine in order.")
    static void whatIsNotComeToMakesNoPair(StateShop shop) {
        shrinks(shop, MORE_NOT_COME_TO, 1, 0, "1 0 +0");
    }

    @Says(at = "Terms", words = "Looked at are the states of the machine in order.")
    static void whatIsNotComeToMakesNoSet(StateShop shop) {
        shrinks(shop, MORE_NOT_COME_TO, 2, 1, "1 0 +0");
    }

    // ---- 0 by rounds

    @Says(at = "Terms", words = "classes at first: accepting and not (as many as there are)")
    static void roundsWithoutAccepting(StateShop shop) {
        shrinks(shop, alike(2, 60, '-'), 0, 1, "2 0 -0,0");
    }

    @Says(at = "Terms", words = "classes at first: accepting and not (as many as there are)")
    static void roundsWithAllAccepting(StateShop shop) {
        shrinks(shop, alike(2, 60, '+'), 0, 1, "2 0 +0,0");
    }

    @Says(at = "Terms", words = "Told: how many rounds (the last one, which changed nothing, too).")
    static void oneRoundThatChangesNothing(StateShop shop) {
        shrinks(shop, "1 0 -1 +0", 0, 1, "1 0 -1 +0");
    }

    @Says(at = "Terms", words = "Told: how many rounds (the last one, which changed nothing, too).")
    static void theLastRoundIsToldToo(StateShop shop) {
        shrinks(shop, "1 0 -1 -2 +2", 0, 2, "1 0 -1 -2 +2");
    }

    @Says(at = "Terms", words = "As long as there are more classes than before.")
    static void theMostRounds(StateShop shop) {
        shrinks(shop, chain(60), 0, 59, chain(60));
    }

    @Says(at = "Terms", words = "two states stay in one class, if for each letter those TO which they go are in one")
    static void aRoundLooksAtTheClassesBeforeIt(StateShop shop) {
        // If classes that are made in a round were looked at in the same round, there would be fewer rounds.
        shrinks(shop, "2 0 +1,1 -2,1 -2,3 -3,4 -0,4", 0, 4, "2 0 +1,1 -2,1 -2,3 -3,4 -0,4");
    }

    // ---- 1 by splitters

    @Says(at = "Terms", words = "the other one (if there is one)")
    static void splittersWithoutAccepting(StateShop shop) {
        shrinks(shop, alike(4, 60, '-'), 1, 0, "4 0 -0,0,0,0");
    }

    @Says(at = "Terms", words = "the other one (if there is one)")
    static void splittersWithAllAccepting(StateShop shop) {
        shrinks(shop, alike(4, 60, '+'), 1, 0, "4 0 +0,0,0,0");
    }

    @Says(at = "Terms", words = "letter by letter, if there are two blocks")
    static void twoBlocksThatAreNotDivided(StateShop shop) {
        shrinks(shop, "4 0 -1,1,1,1 +0,0,0,0", 1, 4, "4 0 -1,1,1,1 +0,0,0,0");
    }

    @Says(at = "Terms", words = "(of like ones block 1)")
    static void twoBlocksWithAsManyStates(StateShop shop) {
        shrinks(shop, "1 0 -1 -2 +3 +0", 1, 3, "1 0 -1 -2 +3 +0");
    }

    @Says(at = "Terms", words = "else that of both that has fewer states now (of like ones the new one)")
    static void aBlockDividedInHalves(StateShop shop) {
        shrinks(shop, "2 0 -1,2 -3,0 -0,3 +3,3", 1, 6, "2 0 -1,2 -3,0 -0,3 +3,3");
    }

    @Says(at = "Terms", words = "Told: how many pairs were taken.")
    static void theMostPairs(StateShop shop) {
        StringBuilder text = new StringBuilder("4 0");
        for (int s = 0; s < 60; s++) {
            text.append(s == 0 ? " +" : " -").append((s + 1) % 60).append(",0,0,0");
        }
        shrinks(shop, text.toString(), 1, 4 * 59, text.toString());
    }

    // ---- 2 by turning twice

    @Says(at = "Terms", words = "Told: how many states the first one had, when it was in order")
    static void turningWithoutAccepting(StateShop shop) {
        shrinks(shop, alike(2, 60, '-'), 2, 1, "2 0 -0,0");
    }

    @Says(at = "Terms", words = "Told: how many states the first one had, when it was in order")
    static void turningWithAllAccepting(StateShop shop) {
        shrinks(shop, alike(2, 60, '+'), 2, 1, "2 0 +0,0");
    }

    @Says(at = "Terms", words = "Told: how many states the first one had, when it was in order")
    static void theFirstOneMayHaveMoreThan60(StateShop shop) {
        // The seventh letter is a: from behind, seven letters must be known.
        Check.due("read(0, 2)", Check.read(shop, 0, 2, "......a.*"), 9);
        Check.due("smaller(0, 2)", shop.smaller(0, 2), 128);
        Check.due("states", shop.about(0, 1), 9);
    }

    @Says(at = "Terms", words = "(before any are made one)")
    static void theFirstOneMayHaveFewerThanTheMachine(StateShop shop) {
        shrinks(shop, "1 0 +1 -2 +3 -0", 2, 2, "1 0 +1 -0");
    }

    @Says(at = "Terms", words = "ROOM (nothing is changed): more than 500 sets at either time.")
    static void fiveHundredSets(StateShop shop) {
        shrinks(shop, Found.TURNS_TO_500, 2, 500, Found.TURNS_TO_500);
    }

    @Says(at = "Terms", words = "ROOM (nothing is changed): more than 500 sets at either time.")
    static void fiveHundredAndOneSets(StateShop shop) {
        Check.build(shop, 0, Found.TURNS_TO_501);
        Check.due("smaller(0, 2)", shop.smaller(0, 2), ROOM);
    }

    @Says(at = "Terms", words = "ROOM (nothing is changed)")
    static void behindRoomItIsNotEvenInOrder(StateShop shop) {
        // The last two are alike, and nothing comes to them.
        String wide = Found.TURNS_TO_501 + " +12,12 +11,11";
        shrinks(shop, wide, 2, ROOM, wide);
    }

    @Says(at = "Terms", words = "ROOM (nothing is changed)")
    static void onlyTurningHasNoRoom(StateShop shop) {
        shrinks(shop, Found.TURNS_TO_501, 0, 4, Found.TURNS_TO_501);
        shrinks(shop, Found.TURNS_TO_501, 1, 20, Found.TURNS_TO_501);
    }
}
