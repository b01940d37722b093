/** Promises 14 to 19: takes, same, apart, words, word, number. */
public final class WordsTest {
    private static final int NONE = StateShop.NONE, OUTSIDE = StateShop.OUTSIDE;

    public static void main(String[] args) {
        takes();
        same();
        longestLeastWord();
        apart();
        words();
        word();
        number();
        thereAndBack();
        Check.finish();
    }

    private static void takes() {
        StateShop shop = new StateShop();
        Check.read(shop, 0, 2, "a(ab)*");
        Check.due("takes a", Check.takes(shop, 0, "a"), 1);
        Check.due("takes aab", Check.takes(shop, 0, "aab"), 1);
        Check.due("takes aa", Check.takes(shop, 0, "aa"), 0);
        Check.due("takes nothing", Check.takes(shop, 0, ""), 0);
        Check.due("takes abc", Check.takes(shop, 0, "abc"), OUTSIDE);
        Check.due("takes c behind", Check.takes(shop, 0, "bbbc"), OUTSIDE);
        Check.due("takes `", Check.takes(shop, 0, "`"), OUTSIDE);
        Check.due("takes byte 225", Check.takes(shop, 0, "\u00E1"), OUTSIDE);
        Check.due("takes of another k", Check.takes(shop, 1, "b"), OUTSIDE);
        Check.due("takes 500 letters", Check.takes(shop, 0, "a" + "ab".repeat(249) + "a"), 0);
        Check.due("takes 499 letters", Check.takes(shop, 0, "a" + "ab".repeat(249)), 1);
        Check.due("the tape stays", shop.bytes(), 499);
        Check.due("takes slot -1", shop.takes(-1), OUTSIDE);
        Check.due("takes slot 6", shop.takes(6), OUTSIDE);
        // The START is what start says, in states as they are.
        Check.build(shop, 2, "1 2 +0 +0 -2");
        Check.due("takes from another START", Check.takes(shop, 2, "a"), 0);
        shop.start(2, 1);
        Check.due("takes from a new START", Check.takes(shop, 2, "a"), 1);
    }

    private static void same() {
        StateShop shop = new StateShop();
        Check.read(shop, 0, 2, "(ab)*");
        Check.build(shop, 1, "2 4 -0,0 -0,4 -0,3 +2,0 +1,0");
        Check.put(shop, "xyz");
        Check.due("same", shop.same(0, 1), 1);
        Check.due("same with itself", shop.same(0, 0), 1);
        Check.due("the tape stays", Check.tape(shop), "xyz");
        Check.read(shop, 2, 2, "(ab)*|bb");
        Check.put(shop, "xyz");
        Check.due("not the same", shop.same(0, 2), 0);
        Check.due("the least word", Check.tape(shop), "bb");
        Check.due("the other way round", shop.same(2, 1), 0);
        Check.due("the least word again", Check.tape(shop), "bb");
        Check.read(shop, 2, 2, "(ab)*|ba|abba|aba");
        Check.due("shorter first", shop.same(0, 2), 0);
        Check.due("ba", Check.tape(shop), "ba");
        Check.read(shop, 2, 2, "(ab)*|ba|aa");
        Check.due("then by letters", shop.same(0, 2), 0);
        Check.due("aa", Check.tape(shop), "aa");
        Check.read(shop, 2, 2, "(ab)+");
        Check.put(shop, "xyz");
        Check.due("the empty word", shop.same(0, 2), 0);
        Check.due("the tape is empty", shop.bytes(), 0);
        Check.due("same slot -1", shop.same(-1, 0), OUTSIDE);
        Check.due("same slot 6", shop.same(0, 6), OUTSIDE);
        Check.due("same, not the same k", shop.same(0, 5), StateShop.STATE);
        Check.due("same, wrong in both", shop.same(5, 7), OUTSIDE);
    }

    /** Machines of n and m states are told apart by n + m - 2 letters, if at all: here just so many are needed. */
    private static void longestLeastWord() {
        StateShop shop = new StateShop();
        Check.build(shop, 0, Check.circle(59));
        Check.build(shop, 1, Check.circle(60));
        Check.due("circles of 59 and 60", shop.same(0, 1), 0);
        Check.due("59 letters", shop.bytes(), 59);
        shop.accept(0, 0, false);
        shop.accept(1, 0, false);
        shop.accept(0, 58, true);
        shop.accept(1, 58, true);
        Check.due("accepting 58", shop.same(1, 0), 0);
        Check.due("117 letters", Check.tape(shop), "a".repeat(117));
        Check.due("they are taken by just one", shop.takes(0) + shop.takes(1), 1);
    }

    private static void apart() {
        StateShop shop = new StateShop();
        Check.build(shop, 0, "2 0 -1,2 -3,0 -1,3 +3,3 +3,4 -4,1");
        Check.put(shop, "xyz");
        Check.due("apart(0, 0, 0)", shop.apart(0, 0, 0), NONE);
        Check.due("apart of like ones", shop.apart(0, 3, 4), NONE);
        Check.due("the tape stays", Check.tape(shop), "xyz");
        Check.due("apart by the empty word", shop.apart(0, 2, 3), 0);
        Check.due("the tape is empty", shop.bytes(), 0);
        Check.due("apart(0, 0, 1)", shop.apart(0, 0, 1), 1);
        Check.due("by a", Check.tape(shop), "a");
        Check.due("apart(0, 2, 0)", shop.apart(0, 2, 0), 1);
        Check.due("by b", Check.tape(shop), "b");
        Check.due("apart of one that the START does not come to", shop.apart(0, 5, 1), 2);
        Check.due("by ba", Check.tape(shop), "ba");
        Check.due("apart state -1", shop.apart(0, -1, 0), OUTSIDE);
        Check.due("apart state 6", shop.apart(0, 0, 6), OUTSIDE);
        Check.due("apart slot -1", shop.apart(-1, 0, 0), OUTSIDE);
        Check.due("apart slot 6", shop.apart(6, 0, 0), OUTSIDE);
    }

    private static void words() {
        StateShop shop = new StateShop();
        Check.read(shop, 0, 2, "!(.*aa.*)");
        long before = 1;
        long here = 1;
        for (int length = 0; length <= 30; length++) {
            Check.due("words without aa, of " + length, shop.words(0, length), here);
            long next = here + before;
            before = here;
            here = next;
        }
        Check.read(shop, 1, 4, "!0");
        Check.due("all words of 30", shop.words(1, 30), 1L << 60);
        Check.due("words of 31", shop.words(1, 31), NONE);
        Check.due("words of -1", shop.words(1, -1), NONE);
        Check.due("words of slot -1", shop.words(-1, 1), NONE);
        Check.due("words of slot 6", shop.words(6, 1), NONE);
        Check.due("words of a new slot", shop.words(5, 0), 0);
    }

    private static void spelt(StateShop shop, int slot, long i, String word) {
        Check.put(shop, "xyz");
        Check.due("word " + i, shop.word(slot, i), word.length());
        Check.due("word " + i, Check.tape(shop), word);
    }

    private static void word() {
        StateShop shop = new StateShop();
        Check.read(shop, 0, 3, "(a|cc|b)*");
        String[] due = {"", "a", "b", "aa", "ab", "ba", "bb", "cc", "aaa", "aab"};
        for (int i = 0; i < due.length; i++) {
            spelt(shop, 0, i, due[i]);
        }
        Check.read(shop, 1, 4, "!0");
        spelt(shop, 1, ((1L << 62) - 1) / 3 - 1, "d".repeat(30));
        spelt(shop, 1, ((1L << 60) - 1) / 3, "a".repeat(30));
        Check.put(shop, "xyz");
        Check.due("one too many", shop.word(1, ((1L << 62) - 1) / 3), NONE);
        Check.due("far too many", shop.word(1, Long.MAX_VALUE), NONE);
        Check.due("no word", shop.word(5, 0), NONE);
        Check.due("word -1", shop.word(1, -1), OUTSIDE);
        Check.due("word, the least", shop.word(1, Long.MIN_VALUE), OUTSIDE);
        Check.due("word of slot -1", shop.word(-1, 0), OUTSIDE);
        Check.due("word of slot 6", shop.word(6, 0), OUTSIDE);
        Check.due("the tape stays", Check.tape(shop), "xyz");
        Check.read(shop, 2, 1, "a".repeat(30) + "|" + "a".repeat(31));
        spelt(shop, 2, 0, "a".repeat(30));
        Check.due("31 letters", shop.word(2, 1), NONE);
    }

    private static long numberOf(StateShop shop, int slot, String word) {
        Check.put(shop, word);
        return shop.number(slot);
    }

    private static void number() {
        StateShop shop = new StateShop();
        Check.read(shop, 0, 3, "(a|cc|b)*");
        Check.due("number of nothing", numberOf(shop, 0, ""), 0);
        Check.due("number of b", numberOf(shop, 0, "b"), 2);
        Check.due("number of cc", numberOf(shop, 0, "cc"), 7);
        Check.due("number of aaa", numberOf(shop, 0, "aaa"), 8);
        Check.due("the tape stays", Check.tape(shop), "aaa");
        Check.due("not taken", numberOf(shop, 0, "c"), NONE);
        Check.due("no letter", numberOf(shop, 0, "d"), NONE);
        Check.due("no letter behind", numberOf(shop, 0, "a`"), NONE);
        Check.due("30 letters", numberOf(shop, 1, "a".repeat(30)), NONE);
        Check.read(shop, 1, 4, "!0");
        Check.due("the last of 30 letters", numberOf(shop, 1, "d".repeat(30)), ((1L << 62) - 1) / 3 - 1);
        Check.due("31 letters", numberOf(shop, 1, "a".repeat(31)), NONE);
        Check.due("500 letters", numberOf(shop, 1, "a".repeat(500)), NONE);
        Check.due("number of slot -1", numberOf(shop, -1, ""), NONE);
        Check.due("number of slot 6", numberOf(shop, 6, ""), NONE);
    }

    private static void thereAndBack() {
        StateShop shop = new StateShop();
        Check.read(shop, 0, 4, "(.*ab.*)&!(.*dd.*)");
        for (long i = 0; i < 1L << 58; i = i * 3 + 1) {
            Check.due("a word there is", shop.word(0, i) >= 2 ? 1 : 0, 1);
            Check.due("word " + i + " there and back", shop.number(0), i);
            Check.due("word " + i + " is taken", shop.takes(0), 1);
        }
    }
}
