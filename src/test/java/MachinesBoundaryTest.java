/** The boundary cases of part 1 and of promises 1 to 8, each by itself. */
public final class MachinesBoundaryTest {
    private static final int NONE = StateShop.NONE, OUTSIDE = StateShop.OUTSIDE;
    private static final int LEAST = Integer.MIN_VALUE, MOST = Integer.MAX_VALUE;
    private static final String SOME = "2 1 -0,1 +1,0 -2,2";

    public static void main(String[] args) throws Exception {
        Sentences.run(MachinesBoundaryTest.class);
    }

    // ---- What it is, and part 1

    @Says(at = "What it is", words = "An object is used for at most 512 calls after it has been made")
    static void call512Answers(StateShop shop) {
        for (int call = 1; call < 512; call++) {
            shop.join(call % 6, call % 8, 0, 0);
        }
        Check.due("call 512: make(0, 4, 60)", shop.make(0, 4, 60), 1);
    }

    @Says(at = "Terms", words = "SLOTS 0 .. 5 have a machine")
    static void slots0And5HaveMachinesOfTheirOwn(StateShop shop) {
        for (int slot = 0; slot < 6; slot++) {
            shop.make(slot, 2, slot + 1);
        }
        for (int slot = 0; slot < 6; slot++) {
            Check.due("states of slot " + slot, shop.about(slot, 1), slot + 1);
        }
    }

    @Says(at = "Terms", words = "LETTERS 0 .. k - 1 (k 1 .. 4)")
    static void letterKIsNone(StateShop shop) {
        for (int k = 1; k <= 4; k++) {
            shop.make(0, k, 1);
            Check.due("the last letter of " + k, shop.to(0, 0, k - 1), 0);
            Check.due("one behind the last letter of " + k, shop.to(0, 0, k), OUTSIDE);
        }
    }

    @Says(at = "Terms", words = "STATES 0 .. n - 1 (n 1 .. 60)")
    static void stateNIsNone(StateShop shop) {
        for (int n = 1; n <= 60; n++) {
            shop.make(0, 4, n);
            Check.due("the last state of " + n, shop.to(0, n - 1, 3), n - 1);
            Check.due("one behind the last state of " + n, shop.to(0, n, 3), OUTSIDE);
        }
    }

    @Says(at = "Terms", words = "it is TAKEN, if from the START by its letters an accepting state is come to")
    static void theEmptyWordComesToTheStart(StateShop shop) {
        shop.make(0, 1, 2);
        shop.edge(0, 1, 0, 0);
        shop.start(0, 1);
        Check.due("the START is not accepting", shop.takes(0), 0);
        shop.accept(0, 1, true);
        Check.due("the START is accepting", shop.takes(0), 1);
    }

    @Says(at = "Terms", words = "(At first: one letter, one state, to itself, not accepting.)")
    static void atFirst(StateShop shop) {
        Check.due("letters", shop.about(0, 0), 1);
        Check.due("states", shop.about(0, 1), 1);
        Check.due("the START", shop.about(0, 2), 0);
        Check.due("where it goes", shop.to(0, 0, 0), 0);
        Check.due("accepting", shop.to(0, 0, NONE), 0);
    }

    // ---- Promise 1: a new object

    @Says(at = "Promise 1", words = "All slots as at first")
    static void allSixSlotsAreNew(StateShop shop) {
        for (int slot = 0; slot < 6; slot++) {
            Check.due("slot " + slot, Check.show(shop, slot), "1 0 -0");
        }
    }

    @Says(at = "Promise 1", words = "All slots as at first, an empty tape.")
    static void aNewObjectHasNothingOfAnother(StateShop shop) {
        for (int slot = 0; slot < 6; slot++) {
            Check.build(shop, slot, SOME);
        }
        shop.feed(1, 2, 3, 4, 5);
        StateShop other = new StateShop();
        for (int slot = 0; slot < 6; slot++) {
            Check.due("slot " + slot + " of another", Check.show(other, slot), "1 0 -0");
        }
        Check.due("the tape of another", other.bytes(), 0);
    }

    @Says(at = "Promise 1", words = "an empty tape")
    static void aNewTapeIsEmpty(StateShop shop) {
        Check.due("bytes()", shop.bytes(), 0);
    }

    // ---- Promise 2: make

    @Says(at = "Promise 2", words = "OUTSIDE (slot, k, n).")
    static void makeSlotTooSmall(StateShop shop) {
        Check.due("make(0, 1, 1)", shop.make(0, 1, 1), 1);
        Check.due("make(-1, 1, 1)", shop.make(-1, 1, 1), OUTSIDE);
        Check.due("make(least, 1, 1)", shop.make(LEAST, 1, 1), OUTSIDE);
    }

    @Says(at = "Promise 2", words = "OUTSIDE (slot, k, n).")
    static void makeSlotTooLarge(StateShop shop) {
        Check.due("make(5, 1, 1)", shop.make(5, 1, 1), 1);
        Check.due("make(6, 1, 1)", shop.make(6, 1, 1), OUTSIDE);
        Check.due("make(most, 1, 1)", shop.make(MOST, 1, 1), OUTSIDE);
    }

    @Says(at = "Promise 2", words = "OUTSIDE (slot, k, n).")
    static void makeKTooSmall(StateShop shop) {
        Check.due("make(0, 1, 2)", shop.make(0, 1, 2), 1);
        Check.due("make(0, 0, 2)", shop.make(0, 0, 2), OUTSIDE);
        Check.due("make(0, -1, 2)", shop.make(0, -1, 2), OUTSIDE);
        Check.due("make(0, least, 2)", shop.make(0, LEAST, 2), OUTSIDE);
    }

    @Says(at = "Promise 2", words = "OUTSIDE (slot, k, n).")
    static void makeKTooLarge(StateShop shop) {
        Check.due("make(0, 4, 2)", shop.make(0, 4, 2), 1);
        Check.due("make(0, 5, 2)", shop.make(0, 5, 2), OUTSIDE);
        Check.due("make(0, most, 2)", shop.make(0, MOST, 2), OUTSIDE);
    }

    @Says(at = "Promise 2", words = "OUTSIDE (slot, k, n).")
    static void makeNTooSmall(StateShop shop) {
        Check.due("make(0, 2, 1)", shop.make(0, 2, 1), 1);
        Check.due("make(0, 2, 0)", shop.make(0, 2, 0), OUTSIDE);
        Check.due("make(0, 2, -1)", shop.make(0, 2, -1), OUTSIDE);
        Check.due("make(0, 2, least)", shop.make(0, 2, LEAST), OUTSIDE);
    }

    @Says(at = "Promise 2", words = "OUTSIDE (slot, k, n).")
    static void makeNTooLarge(StateShop shop) {
        Check.due("make(0, 2, 60)", shop.make(0, 2, 60), 1);
        Check.due("make(0, 2, 61)", shop.make(0, 2, 61), OUTSIDE);
        Check.due("make(0, 2, most)", shop.make(0, 2, MOST), OUTSIDE);
    }

    @Says(at = "Promise 2", words = "OUTSIDE (slot, k, n).")
    static void makeRefusedChangesNothing(StateShop shop) {
        Check.build(shop, 0, SOME);
        for (int[] wrong : new int[][] {{3, 61}, {3, 0}, {5, 3}, {0, 3}}) {
            shop.make(0, wrong[0], wrong[1]);
            Check.due("slot 0 behind k " + wrong[0] + ", n " + wrong[1], Check.show(shop, 0), SOME);
        }
    }

    @Says(at = "Promise 2", words = "A slot has a machine of k letters, n states")
    static void makeOfTheMostLettersAndStates(StateShop shop) {
        shop.make(0, 4, 60);
        Check.due("letters", shop.about(0, 0), 4);
        Check.due("states", shop.about(0, 1), 60);
    }

    @Says(at = "Promise 2", words = "START 0")
    static void makeForgetsTheStart(StateShop shop) {
        shop.make(0, 1, 60);
        shop.start(0, 59);
        shop.make(0, 1, 60);
        Check.due("the START", shop.about(0, 2), 0);
    }

    @Says(at = "Promise 2", words = "all going to themselves")
    static void makeForgetsAllWays(StateShop shop) {
        shop.make(0, 4, 60);
        for (int s = 0; s < 60; s++) {
            for (int l = 0; l < 4; l++) {
                shop.edge(0, s, l, 59 - s);
            }
        }
        shop.make(0, 4, 60);
        for (int s = 0; s < 60; s++) {
            for (int l = 0; l < 4; l++) {
                Check.due("to(0, " + s + ", " + l + ")", shop.to(0, s, l), s);
            }
        }
    }

    @Says(at = "Promise 2", words = "none accepting: 1.")
    static void makeForgetsAllAccepting(StateShop shop) {
        shop.make(0, 1, 60);
        for (int s = 0; s < 60; s++) {
            shop.accept(0, s, true);
        }
        shop.make(0, 1, 60);
        for (int s = 0; s < 60; s++) {
            Check.due("to(0, " + s + ", NONE)", shop.to(0, s, NONE), 0);
        }
    }

    // ---- Promise 3: edge

    @Says(at = "Promise 3", words = "OUTSIDE.")
    static void edgeSlotTooSmall(StateShop shop) {
        Check.due("edge(0, 0, 0, 0)", shop.edge(0, 0, 0, 0), 0);
        Check.due("edge(-1, 0, 0, 0)", shop.edge(-1, 0, 0, 0), OUTSIDE);
        Check.due("edge(least, 0, 0, 0)", shop.edge(LEAST, 0, 0, 0), OUTSIDE);
    }

    @Says(at = "Promise 3", words = "OUTSIDE.")
    static void edgeSlotTooLarge(StateShop shop) {
        Check.due("edge(5, 0, 0, 0)", shop.edge(5, 0, 0, 0), 0);
        Check.due("edge(6, 0, 0, 0)", shop.edge(6, 0, 0, 0), OUTSIDE);
        Check.due("edge(most, 0, 0, 0)", shop.edge(MOST, 0, 0, 0), OUTSIDE);
    }

    @Says(at = "Promise 3", words = "OUTSIDE.")
    static void edgeStateTooSmall(StateShop shop) {
        Check.due("edge(0, -1, 0, 0)", shop.edge(0, -1, 0, 0), OUTSIDE);
        Check.due("edge(0, least, 0, 0)", shop.edge(0, LEAST, 0, 0), OUTSIDE);
    }

    @Says(at = "Promise 3", words = "OUTSIDE.")
    static void edgeStateTooLarge(StateShop shop) {
        shop.make(0, 4, 60);
        shop.make(0, 2, 3);
        Check.due("edge(0, 2, 0, 0)", shop.edge(0, 2, 0, 0), 2);
        Check.due("edge(0, 3, 0, 0)", shop.edge(0, 3, 0, 0), OUTSIDE);
        Check.due("edge(0, most, 0, 0)", shop.edge(0, MOST, 0, 0), OUTSIDE);
        shop.make(0, 2, 60);
        Check.due("edge(0, 60, 0, 0)", shop.edge(0, 60, 0, 0), OUTSIDE);
    }

    @Says(at = "Promise 3", words = "OUTSIDE.")
    static void edgeLetterTooSmall(StateShop shop) {
        Check.due("edge(0, 0, NONE, 0)", shop.edge(0, 0, NONE, 0), OUTSIDE);
        Check.due("edge(0, 0, least, 0)", shop.edge(0, 0, LEAST, 0), OUTSIDE);
    }

    @Says(at = "Promise 3", words = "OUTSIDE.")
    static void edgeLetterTooLarge(StateShop shop) {
        for (int k = 1; k <= 4; k++) {
            shop.make(0, k, 1);
            Check.due("edge by the last letter of " + k, shop.edge(0, 0, k - 1, 0), 0);
            Check.due("edge by one behind it", shop.edge(0, 0, k, 0), OUTSIDE);
        }
        Check.due("edge(0, 0, most, 0)", shop.edge(0, 0, MOST, 0), OUTSIDE);
    }

    @Says(at = "Promise 3", words = "OUTSIDE.")
    static void edgeToTooSmall(StateShop shop) {
        Check.due("edge(0, 0, 0, -1)", shop.edge(0, 0, 0, -1), OUTSIDE);
        Check.due("edge(0, 0, 0, least)", shop.edge(0, 0, 0, LEAST), OUTSIDE);
    }

    @Says(at = "Promise 3", words = "OUTSIDE.")
    static void edgeToTooLarge(StateShop shop) {
        shop.make(0, 1, 3);
        Check.due("edge(0, 0, 0, 2)", shop.edge(0, 0, 0, 2), 0);
        Check.due("edge(0, 0, 0, 3)", shop.edge(0, 0, 0, 3), OUTSIDE);
        Check.due("edge(0, 0, 0, most)", shop.edge(0, 0, 0, MOST), OUTSIDE);
    }

    @Says(at = "Promise 3", words = "OUTSIDE.")
    static void edgeRefusedChangesNothing(StateShop shop) {
        Check.build(shop, 0, SOME);
        for (int[] wrong : new int[][] {{0, 0, 3}, {0, 0, -1}, {0, 2, 1}, {0, NONE, 1}, {3, 0, 1}, {-1, 0, 1}}) {
            shop.edge(0, wrong[0], wrong[1], wrong[2]);
            Check.due("slot 0 behind edge(0, " + wrong[0] + ", ..)", Check.show(shop, 0), SOME);
        }
    }

    @Says(at = "Promise 3", words = "A state goes by a letter to another one from now on")
    static void edgeOfTheLastStateAndLetterIsTheOnlyOneChanged(StateShop shop) {
        shop.make(0, 4, 60);
        shop.edge(0, 59, 3, 0);
        for (int s = 0; s < 60; s++) {
            for (int l = 0; l < 4; l++) {
                Check.due("to(0, " + s + ", " + l + ")", shop.to(0, s, l), s == 59 && l == 3 ? 0 : s);
            }
        }
    }

    @Says(at = "Promise 3", words = "to which it went")
    static void edgeToWhereItGoesAlready(StateShop shop) {
        shop.make(0, 1, 60);
        Check.due("at first", shop.edge(0, 7, 0, 59), 7);
        Check.due("to the same", shop.edge(0, 7, 0, 59), 59);
        Check.due("to another", shop.edge(0, 7, 0, 0), 59);
    }

    // ---- Promise 4: accept

    @Says(at = "Promise 4", words = "OUTSIDE.")
    static void acceptSlotTooSmall(StateShop shop) {
        Check.due("accept(-1, 0, true)", shop.accept(-1, 0, true), OUTSIDE);
        Check.due("accept(least, 0, true)", shop.accept(LEAST, 0, true), OUTSIDE);
    }

    @Says(at = "Promise 4", words = "OUTSIDE.")
    static void acceptSlotTooLarge(StateShop shop) {
        Check.due("accept(5, 0, true)", shop.accept(5, 0, true), 0);
        Check.due("accept(6, 0, true)", shop.accept(6, 0, true), OUTSIDE);
        Check.due("accept(most, 0, true)", shop.accept(MOST, 0, true), OUTSIDE);
    }

    @Says(at = "Promise 4", words = "OUTSIDE.")
    static void acceptStateTooSmall(StateShop shop) {
        Check.due("accept(0, -1, true)", shop.accept(0, -1, true), OUTSIDE);
        Check.due("accept(0, least, true)", shop.accept(0, LEAST, true), OUTSIDE);
    }

    @Says(at = "Promise 4", words = "OUTSIDE.")
    static void acceptStateTooLarge(StateShop shop) {
        shop.make(0, 1, 3);
        Check.due("accept(0, 2, true)", shop.accept(0, 2, true), 0);
        Check.due("accept(0, 3, true)", shop.accept(0, 3, true), OUTSIDE);
        Check.due("accept(0, most, true)", shop.accept(0, MOST, true), OUTSIDE);
        shop.make(0, 1, 60);
        Check.due("accept(0, 60, true)", shop.accept(0, 60, true), OUTSIDE);
    }

    @Says(at = "Promise 4", words = "OUTSIDE.")
    static void acceptRefusedChangesNothing(StateShop shop) {
        Check.build(shop, 0, SOME);
        for (int state : new int[] {3, -1, 60, LEAST, MOST}) {
            shop.accept(0, state, true);
            Check.due("slot 0 behind accept(0, " + state + ", true)", Check.show(shop, 0), SOME);
            shop.accept(0, state, false);
            Check.due("slot 0 behind accept(0, " + state + ", false)", Check.show(shop, 0), SOME);
        }
    }

    @Says(at = "Promise 4", words = "what it was (1, 0)")
    static void acceptOfWhatIsSoAlready(StateShop shop) {
        shop.make(0, 1, 60);
        Check.due("not, and not", shop.accept(0, 59, false), 0);
        Check.due("not, and on", shop.accept(0, 59, true), 0);
        Check.due("on, and on", shop.accept(0, 59, true), 1);
        Check.due("on, and not", shop.accept(0, 59, false), 1);
        Check.due("not again", shop.accept(0, 59, false), 0);
    }

    // ---- Promise 5: start

    @Says(at = "Promise 5", words = "OUTSIDE.")
    static void startSlotTooSmall(StateShop shop) {
        Check.due("start(-1, 0)", shop.start(-1, 0), OUTSIDE);
        Check.due("start(least, 0)", shop.start(LEAST, 0), OUTSIDE);
    }

    @Says(at = "Promise 5", words = "OUTSIDE.")
    static void startSlotTooLarge(StateShop shop) {
        Check.due("start(5, 0)", shop.start(5, 0), 0);
        Check.due("start(6, 0)", shop.start(6, 0), OUTSIDE);
        Check.due("start(most, 0)", shop.start(MOST, 0), OUTSIDE);
    }

    @Says(at = "Promise 5", words = "OUTSIDE.")
    static void startStateTooSmall(StateShop shop) {
        Check.due("start(0, -1)", shop.start(0, -1), OUTSIDE);
        Check.due("start(0, least)", shop.start(0, LEAST), OUTSIDE);
    }

    @Says(at = "Promise 5", words = "OUTSIDE.")
    static void startStateTooLarge(StateShop shop) {
        shop.make(0, 1, 3);
        Check.due("start(0, 2)", shop.start(0, 2), 0);
        Check.due("start(0, 3)", shop.start(0, 3), OUTSIDE);
        Check.due("start(0, most)", shop.start(0, MOST), OUTSIDE);
        shop.make(0, 1, 60);
        Check.due("start(0, 60)", shop.start(0, 60), OUTSIDE);
    }

    @Says(at = "Promise 5", words = "OUTSIDE.")
    static void startRefusedChangesNothing(StateShop shop) {
        Check.build(shop, 0, SOME);
        for (int state : new int[] {3, -1, 60, LEAST, MOST}) {
            shop.start(0, state);
            Check.due("the START behind start(0, " + state + ")", shop.about(0, 2), 1);
        }
    }

    @Says(at = "Promise 5", words = "The START: what it was.")
    static void startOfWhatIsStartAlready(StateShop shop) {
        shop.make(0, 1, 60);
        Check.due("to the last", shop.start(0, 59), 0);
        Check.due("to the same", shop.start(0, 59), 59);
        Check.due("to the first", shop.start(0, 0), 59);
    }

    // ---- Promise 6: about

    @Says(at = "Promise 6", words = "OUTSIDE.")
    static void aboutSlotTooSmall(StateShop shop) {
        Check.due("about(-1, 0)", shop.about(-1, 0), OUTSIDE);
        Check.due("about(least, 0)", shop.about(LEAST, 0), OUTSIDE);
    }

    @Says(at = "Promise 6", words = "OUTSIDE.")
    static void aboutSlotTooLarge(StateShop shop) {
        Check.due("about(5, 0)", shop.about(5, 0), 1);
        Check.due("about(6, 0)", shop.about(6, 0), OUTSIDE);
        Check.due("about(most, 0)", shop.about(MOST, 0), OUTSIDE);
    }

    @Says(at = "Promise 6", words = "OUTSIDE.")
    static void aboutWhatTooSmall(StateShop shop) {
        Check.due("about(0, -1)", shop.about(0, -1), OUTSIDE);
        Check.due("about(0, least)", shop.about(0, LEAST), OUTSIDE);
    }

    @Says(at = "Promise 6", words = "OUTSIDE.")
    static void aboutWhatTooLarge(StateShop shop) {
        Check.due("about(0, 3)", shop.about(0, 3), 0);
        Check.due("about(0, 4)", shop.about(0, 4), OUTSIDE);
        Check.due("about(0, most)", shop.about(0, MOST), OUTSIDE);
    }

    @Says(at = "Promise 6", words = "3 how many accepting states")
    static void aboutNoneAndAllAccepting(StateShop shop) {
        shop.make(0, 1, 60);
        Check.due("none of 60", shop.about(0, 3), 0);
        for (int s = 0; s < 60; s++) {
            shop.accept(0, s, true);
        }
        Check.due("all of 60, though the START comes to one", shop.about(0, 3), 60);
        shop.make(0, 1, 1);
        shop.accept(0, 0, true);
        Check.due("one of one: those behind it are gone", shop.about(0, 3), 1);
    }

    // ---- Promise 7: to

    @Says(at = "Promise 7", words = "OUTSIDE.")
    static void toSlotTooSmall(StateShop shop) {
        Check.due("to(-1, 0, 0)", shop.to(-1, 0, 0), OUTSIDE);
        Check.due("to(least, 0, NONE)", shop.to(LEAST, 0, NONE), OUTSIDE);
    }

    @Says(at = "Promise 7", words = "OUTSIDE.")
    static void toSlotTooLarge(StateShop shop) {
        Check.due("to(5, 0, 0)", shop.to(5, 0, 0), 0);
        Check.due("to(6, 0, 0)", shop.to(6, 0, 0), OUTSIDE);
        Check.due("to(most, 0, NONE)", shop.to(MOST, 0, NONE), OUTSIDE);
    }

    @Says(at = "Promise 7", words = "OUTSIDE.")
    static void toStateTooSmall(StateShop shop) {
        Check.due("to(0, -1, 0)", shop.to(0, -1, 0), OUTSIDE);
        Check.due("to(0, -1, NONE)", shop.to(0, -1, NONE), OUTSIDE);
        Check.due("to(0, least, 0)", shop.to(0, LEAST, 0), OUTSIDE);
    }

    @Says(at = "Promise 7", words = "OUTSIDE.")
    static void toStateTooLarge(StateShop shop) {
        shop.make(0, 1, 60);
        Check.due("to(0, 60, 0) of 60", shop.to(0, 60, 0), OUTSIDE);
        shop.accept(0, 3, true);
        shop.make(0, 1, 3);
        Check.due("to(0, 3, 0) of 3", shop.to(0, 3, 0), OUTSIDE);
        Check.due("to(0, 3, NONE) of 3", shop.to(0, 3, NONE), OUTSIDE);
        Check.due("to(0, most, NONE)", shop.to(0, MOST, NONE), OUTSIDE);
    }

    @Says(at = "Promise 7", words = "OUTSIDE.")
    static void toLetterTooSmall(StateShop shop) {
        Check.due("to(0, 0, -2)", shop.to(0, 0, -2), OUTSIDE);
        Check.due("to(0, 0, least)", shop.to(0, 0, LEAST), OUTSIDE);
    }

    @Says(at = "Promise 7", words = "OUTSIDE.")
    static void toLetterTooLarge(StateShop shop) {
        for (int k = 1; k <= 4; k++) {
            shop.make(0, k, 2);
            Check.due("to by one behind the last letter of " + k, shop.to(0, 0, k), OUTSIDE);
        }
        Check.due("to(0, 0, most)", shop.to(0, 0, MOST), OUTSIDE);
    }

    @Says(at = "Promise 7", words = "by letter NONE whether it is accepting (1, 0)")
    static void toByLetterNone(StateShop shop) {
        shop.make(0, 1, 60);
        shop.accept(0, 59, true);
        Check.due("to(0, 59, NONE)", shop.to(0, 59, NONE), 1);
        Check.due("to(0, 58, NONE)", shop.to(0, 58, NONE), 0);
    }

    // ---- Promise 8: order

    @Says(at = "Promise 8", words = "OUTSIDE.")
    static void orderSlotTooSmall(StateShop shop) {
        Check.due("order(-1)", shop.order(-1), OUTSIDE);
        Check.due("order(least)", shop.order(LEAST), OUTSIDE);
    }

    @Says(at = "Promise 8", words = "OUTSIDE.")
    static void orderSlotTooLarge(StateShop shop) {
        Check.due("order(5)", shop.order(5), 1);
        Check.due("order(6)", shop.order(6), OUTSIDE);
        Check.due("order(most)", shop.order(MOST), OUTSIDE);
    }

    @Says(at = "Terms", words = "just the states that the START comes to")
    static void orderOfAStartThatComesToItselfAlone(StateShop shop) {
        Check.build(shop, 0, "4 2 -1,1,1,1 +0,0,0,0 +2,2,2,2 -0,1,2,3");
        Check.due("order(0)", shop.order(0), 1);
        Check.due("slot 0", Check.show(shop, 0), "4 0 +0,0,0,0");
        Check.due("what is not come to is gone", shop.to(0, 1, 0), OUTSIDE);
    }

    @Says(at = "Terms", words = "just the states that the START comes to")
    static void orderOf60ThatAreAllComeTo(StateShop shop) {
        shop.make(0, 1, 60);
        for (int s = 1; s < 60; s++) {
            shop.edge(0, s, 0, s - 1);
        }
        shop.start(0, 59);
        Check.due("order(0)", shop.order(0), 60);
        Check.due("the last one is met last", shop.to(0, 59, 0), 59);
    }

    @Says(at = "Terms", words = "numbered as they are met: the START, then state by state, by letters")
    static void orderByStatesBeforeLetters(StateShop shop) {
        // The START 4 meets 2 and 0; 2 meets 3, before 0 meets 1.
        Check.build(shop, 0, "2 4 -1,4 +1,1 -3,4 +3,3 -2,0");
        Check.due("order(0)", shop.order(0), 5);
        Check.due("slot 0", Check.show(shop, 0), "2 0 -1,2 -3,0 -4,0 +3,3 +4,4");
    }

    @Says(at = "Terms", words = "numbered as they are met: the START")
    static void orderMakesTheStart0(StateShop shop) {
        Check.build(shop, 0, "1 1 -1 +0");
        shop.order(0);
        Check.due("slot 0", Check.show(shop, 0), "1 0 +1 -0");
    }

    @Says(at = "Promise 8", words = "It is brought in ORDER: how many states it has.")
    static void orderMakesNoTwoOne(StateShop shop) {
        Check.build(shop, 0, "1 0 +1 +2 +0");
        Check.due("order(0)", shop.order(0), 3);
        Check.due("slot 0", Check.show(shop, 0), "1 0 +1 +2 +0");
    }

    @Says(at = "Promise 8", words = "It is brought in ORDER: how many states it has.")
    static void orderOfANewSlot(StateShop shop) {
        Check.due("order(0)", shop.order(0), 1);
        Check.due("slot 0", Check.show(shop, 0), "1 0 -0");
    }
}
