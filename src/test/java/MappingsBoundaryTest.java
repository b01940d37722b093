/** The boundary cases of part 5's mappings and of promises 22 to 24, each by itself. */
public final class MappingsBoundaryTest {
    private static final int NONE = StateShop.NONE, OUTSIDE = StateShop.OUTSIDE, ROOM = StateShop.ROOM;
    private static final int LEAST = Integer.MIN_VALUE, MOST = Integer.MAX_VALUE;
    /** (ab)*: six mappings of three states. */
    private static final String PAIRS = "2 0 +1,2 -2,0 -2,2";
    /** By a and b state 1 is come to, and 0: all but the first map all to one. */
    private static final String LAST_LETTER = "2 0 -1,0 +1,0";

    public static void main(String[] args) throws Exception {
        Sentences.run(MappingsBoundaryTest.class);
    }

    private static void find(StateShop shop, String shown, int due) {
        Check.build(shop, 0, shown);
        Check.due("mappings(0)", shop.mappings(0), due);
    }

    private static void tells(StateShop shop, String shown, int what, int due) {
        Check.build(shop, 0, shown);
        shop.mappings(0);
        Check.due("mapping(" + what + ") of " + shown, shop.mapping(what), due);
    }

    private static String rows(StateShop shop, int count, int states) {
        StringBuilder text = new StringBuilder();
        for (int i = 0; i < count; i++) {
            text.append(i == 0 ? "" : ";");
            for (int s = 0; s < states; s++) {
                text.append(s == 0 ? "" : " ").append(shop.maps(i, s));
            }
        }
        return text.toString();
    }

    /** Each state goes to the next one, the last to itself; only the last one is accepting. */
    private static String chain(int n) {
        StringBuilder text = new StringBuilder("1 0");
        for (int s = 0; s < n; s++) {
            text.append(s == n - 1 ? " +" : " -").append(Math.min(s + 1, n - 1));
        }
        return text.toString();
    }

    // ---- Promise 22: mappings

    @Says(at = "Promise 22", words = "OUTSIDE, ROOM (none are found then).")
    static void mappingsSlotTooSmall(StateShop shop) {
        Check.due("mappings(0)", shop.mappings(0), 1);
        Check.due("mappings(-1)", shop.mappings(-1), OUTSIDE);
        Check.due("mappings(least)", shop.mappings(LEAST), OUTSIDE);
    }

    @Says(at = "Promise 22", words = "OUTSIDE, ROOM (none are found then).")
    static void mappingsSlotTooLarge(StateShop shop) {
        Check.due("mappings(5)", shop.mappings(5), 1);
        Check.due("mappings(6)", shop.mappings(6), OUTSIDE);
        Check.due("mappings(most)", shop.mappings(MOST), OUTSIDE);
    }

    @Says(at = "Promise 22", words = "OUTSIDE, ROOM (none are found then).")
    static void outsideLeavesWhatWasFound(StateShop shop) {
        find(shop, LAST_LETTER, 3);
        shop.mappings(6);
        shop.mappings(-1);
        Check.due("the mappings", rows(shop, 3, 2), "0 1;1 1;0 0");
    }

    @Says(at = "Terms", words = "ROOM: more than 400.")
    static void fourHundredMappings(StateShop shop) {
        find(shop, Found.MAPS_400, 400);
    }

    @Says(at = "Terms", words = "ROOM: more than 400.")
    static void fourHundredAndOneMappings(StateShop shop) {
        find(shop, Found.MAPS_401, ROOM);
    }

    @Says(at = "Promise 22", words = "ROOM (none are found then)")
    static void behindRoomThereIsNoMapping(StateShop shop) {
        find(shop, LAST_LETTER, 3);
        find(shop, Found.MAPS_401, ROOM);
        for (int i = 0; i <= 400; i++) {
            Check.due("maps(" + i + ", 0)", shop.maps(i, 0), OUTSIDE);
        }
    }

    @Says(at = "Promise 22", words = "ROOM (none are found then)")
    static void behindRoomOthersMayBeFound(StateShop shop) {
        find(shop, Found.MAPS_401, ROOM);
        find(shop, LAST_LETTER, 3);
        Check.due("the mappings", rows(shop, 3, 2), "0 1;1 1;0 0");
    }

    @Says(at = "Terms", words = "the first is that of the empty word")
    static void aMachineOfOneStateHasOneMapping(StateShop shop) {
        find(shop, "4 0 +0,0,0,0", 1);
        Check.due("maps(0, 0)", shop.maps(0, 0), 0);
    }

    @Says(at = "Terms", words = "the first is that of the empty word")
    static void theFirstOf60States(StateShop shop) {
        find(shop, Check.circle(60), 60);
        for (int s = 0; s < 60; s++) {
            Check.due("maps(0, " + s + ")", shop.maps(0, s), s);
        }
    }

    @Says(at = "Terms", words = "of the states of the smallest machine of a slot")
    static void statesThatAreAlikeOrNotComeToAreNotMapped(StateShop shop) {
        // 1 and 2 are alike, nothing comes to 4; smallest: 3, then 1.
        find(shop, "2 3 +1,0 -2,2 -2,2 +1,3 -0,0", 2);
        Check.due("the mappings", rows(shop, 2, 2), "0 1;1 1");
        Check.due("maps(0, 2)", shop.maps(0, 2), OUTSIDE);
    }

    @Says(at = "Promise 22", words = "The MAPPINGS of a slot are found: how many.")
    static void theSlotItselfStays(StateShop shop) {
        find(shop, "2 3 +1,0 -2,2 -2,2 +1,3 -0,0", 2);
        Check.due("slot 0", Check.show(shop, 0), "2 3 +1,0 -2,2 -2,2 +1,3 -0,0");
    }

    @Says(at = "Terms", words = "that of its word and the letter behind, if it is new")
    static void aMappingThatIsMetAgainIsNotNew(StateShop shop) {
        // The letters c and d are as a and b.
        find(shop, "4 0 +1,2,1,2 -2,0,2,0 -2,2,2,2", 6);
        Check.due("the mappings", rows(shop, 6, 3), "0 1 2;1 2 2;2 0 2;2 2 2;0 2 2;2 1 2");
    }

    @Says(at = "Terms", words = "then mapping by mapping, by letters: that of its word and the letter behind")
    static void mappingByMappingBeforeLetters(StateShop shop) {
        // The words are: none, a, b, aa, ab, ba.
        find(shop, PAIRS, 6);
        Check.due("the mappings", rows(shop, 6, 3), "0 1 2;1 2 2;2 0 2;2 2 2;0 2 2;2 1 2");
    }

    // ---- Promise 23: maps

    @Says(at = "Promise 23", words = "OUTSIDE.")
    static void mapsITooSmall(StateShop shop) {
        find(shop, PAIRS, 6);
        Check.due("maps(0, 0)", shop.maps(0, 0), 0);
        Check.due("maps(-1, 0)", shop.maps(-1, 0), OUTSIDE);
        Check.due("maps(least, 0)", shop.maps(LEAST, 0), OUTSIDE);
    }

    @Says(at = "Promise 23", words = "OUTSIDE.")
    static void mapsITooLarge(StateShop shop) {
        find(shop, PAIRS, 6);
        Check.due("maps(5, 2)", shop.maps(5, 2), 2);
        Check.due("maps(6, 2)", shop.maps(6, 2), OUTSIDE);
        Check.due("maps(most, 2)", shop.maps(MOST, 2), OUTSIDE);
        find(shop, Found.MAPS_400, 400);
        Check.due("maps(399, 0)", Math.min(shop.maps(399, 0), 0), 0);
        Check.due("maps(400, 0)", shop.maps(400, 0), OUTSIDE);
    }

    @Says(at = "Promise 23", words = "OUTSIDE.")
    static void mapsStateTooSmall(StateShop shop) {
        find(shop, PAIRS, 6);
        Check.due("maps(0, -1)", shop.maps(0, -1), OUTSIDE);
        Check.due("maps(1, -1)", shop.maps(1, -1), OUTSIDE);
        Check.due("maps(0, least)", shop.maps(0, LEAST), OUTSIDE);
    }

    @Says(at = "Promise 23", words = "OUTSIDE.")
    static void mapsStateTooLarge(StateShop shop) {
        find(shop, PAIRS, 6);
        Check.due("maps(0, 2)", shop.maps(0, 2), 2);
        Check.due("maps(0, 3)", shop.maps(0, 3), OUTSIDE);
        Check.due("maps(0, most)", shop.maps(0, MOST), OUTSIDE);
        find(shop, Check.circle(60), 60);
        Check.due("maps(59, 59)", shop.maps(59, 59), 58);
        Check.due("maps(59, 60)", shop.maps(59, 60), OUTSIDE);
    }

    @Says(at = "Promise 23", words = "OUTSIDE.")
    static void mapsBeforeAny(StateShop shop) {
        Check.due("maps(0, 0)", shop.maps(0, 0), OUTSIDE);
    }

    @Says(at = "Promise 23", words = "Of the MAPPINGS found latest")
    static void mapsOfTheLatest(StateShop shop) {
        find(shop, PAIRS, 6);
        find(shop, LAST_LETTER, 3);
        Check.due("the mappings", rows(shop, 3, 2), "0 1;1 1;0 0");
        Check.due("maps(3, 0)", shop.maps(3, 0), OUTSIDE);
        Check.due("maps(0, 2)", shop.maps(0, 2), OUTSIDE);
    }

    @Says(at = "Promise 23", words = "Of the MAPPINGS found latest")
    static void mapsStayWhenTheSlotChanges(StateShop shop) {
        find(shop, LAST_LETTER, 3);
        shop.make(0, 1, 1);
        shop.join(0, 7, 0, 0);
        shop.smaller(0, 0);
        Check.due("the mappings", rows(shop, 3, 2), "0 1;1 1;0 0");
    }

    // ---- Promise 24: mapping

    @Says(at = "Promise 24", words = "OUTSIDE; NONE before any (or behind ROOM).")
    static void mappingWhatTooSmall(StateShop shop) {
        shop.mappings(0);
        Check.due("mapping(0)", shop.mapping(0), 1);
        Check.due("mapping(-1)", shop.mapping(-1), OUTSIDE);
        Check.due("mapping(least)", shop.mapping(LEAST), OUTSIDE);
    }

    @Says(at = "Promise 24", words = "OUTSIDE; NONE before any (or behind ROOM).")
    static void mappingWhatTooLarge(StateShop shop) {
        shop.mappings(0);
        Check.due("mapping(4)", shop.mapping(4), 1);
        Check.due("mapping(5)", shop.mapping(5), OUTSIDE);
        Check.due("mapping(most)", shop.mapping(MOST), OUTSIDE);
    }

    @Says(at = "Promise 24", words = "NONE before any")
    static void mappingBeforeAny(StateShop shop) {
        for (int what = 0; what < 5; what++) {
            Check.due("mapping(" + what + ")", shop.mapping(what), NONE);
        }
    }

    @Says(at = "Promise 24", words = "NONE before any")
    static void mappingBeforeAnyBehindOutside(StateShop shop) {
        shop.mappings(6);
        Check.due("mapping(0)", shop.mapping(0), NONE);
    }

    @Says(at = "Promise 24", words = "(or behind ROOM)")
    static void mappingBehindRoom(StateShop shop) {
        find(shop, LAST_LETTER, 3);
        find(shop, Found.MAPS_401, ROOM);
        for (int what = 0; what < 5; what++) {
            Check.due("mapping(" + what + ")", shop.mapping(what), NONE);
        }
    }

    @Says(at = "Promise 24", words = "0 how many are the same as themselves twice")
    static void fewestAndAllAreTheSameTwice(StateShop shop) {
        tells(shop, "1 0 +0", 0, 1);
        tells(shop, Check.circle(60), 0, 1);
        tells(shop, LAST_LETTER, 0, 3);
    }

    @Says(at = "Promise 24", words = "1 whether each one, often enough, becomes one that is the same with itself once more (1, 0)")
    static void oftenEnoughIsUpTo59Times(StateShop shop) {
        tells(shop, "1 0 +0", 1, 1);
        tells(shop, chain(60), 1, 1);
    }

    @Says(at = "Promise 24", words = "1 whether each one, often enough, becomes one that is the same with itself once more (1, 0)")
    static void aCircleNeverDoes(StateShop shop) {
        for (int n = 2; n <= 60; n++) {
            tells(shop, Check.circle(n), 1, 0);
        }
    }

    @Says(at = "Promise 24", words = "1 whether each one, often enough, becomes one that is the same with itself once more (1, 0)")
    static void aWordMayMakeACircleThatNoLetterMakes(StateShop shop) {
        // The letters settle; but ab goes from 0 to 2 and back.
        tells(shop, "2 0 +1,0 -1,2 -2,0", 1, 0);
    }

    @Says(at = "Promise 24", words = "2 whether any two are the same in either order")
    static void oneMappingIsTheSameInEitherOrder(StateShop shop) {
        tells(shop, "1 0 +0", 2, 1);
    }

    @Says(at = "Promise 24", words = "2 whether any two are the same in either order")
    static void oneLetterIsTheSameInEitherOrder(StateShop shop) {
        tells(shop, Check.circle(60), 2, 1);
    }

    @Says(at = "Promise 24", words = "2 whether any two are the same in either order")
    static void onlyTheLastTwoLettersAreNot(StateShop shop) {
        // a and b change nothing; c and d map all to one state each.
        tells(shop, "4 0 -0,0,0,1 +1,1,0,1", 2, 0);
        tells(shop, "4 0 -0,0,0,1 +1,1,1,0", 2, 1);
    }

    @Says(at = "Promise 24", words = "3 how many map all states to one")
    static void noneAndMostMapAllToOne(StateShop shop) {
        tells(shop, "1 0 +0", 3, 1);
        tells(shop, Check.circle(60), 3, 0);
        tells(shop, LAST_LETTER, 3, 2);
    }

    @Says(at = "Promise 24", words = "4 how many map no two to one")
    static void oneAndAllMapNoTwoToOne(StateShop shop) {
        tells(shop, "1 0 +0", 4, 1);
        tells(shop, Check.circle(60), 4, 60);
        tells(shop, LAST_LETTER, 4, 1);
    }
}
