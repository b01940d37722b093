/** Promise 10: join. */
public final class JoinTest {
    private static final int OUTSIDE = StateShop.OUTSIDE, STATE = StateShop.STATE, ROOM = StateShop.ROOM;

    public static void main(String[] args) {
        takesWhatItShould();
        putsTheSmallest();
        mayBeOneOfThem();
        emptyWords();
        roomOfSets();
        roomOfStates();
        wrongInputs();
        bIsNotAsked();
        Check.finish();
    }

    /** Every word up to seven letters, in the eight ways. */
    private static void takesWhatItShould() {
        for (int how = 0; how < 8; how++) {
            StateShop shop = new StateShop();
            Check.read(shop, 0, 2, "(a|b)*ab|b");
            Check.read(shop, 1, 2, "ab*|bb");
            shop.join(2, how, 0, 1);
            for (int code = 1; code < 256; code++) {
                String word = Integer.toBinaryString(code).substring(1).replace('0', 'a').replace('1', 'b');
                Check.due("join " + how + " takes " + word, Check.takes(shop, 2, word), due(how, word) ? 1 : 0);
            }
        }
    }

    private static boolean inA(String word) {
        return word.endsWith("ab") || word.equals("b");
    }

    private static boolean inB(String word) {
        return word.matches("ab*|bb");
    }

    private static boolean due(int how, String word) {
        switch (how) {
            case 0: return inA(word) && inB(word);
            case 1: return inA(word) || inB(word);
            case 2: return inA(word) && !inB(word);
            case 3: return inA(word) != inB(word);
            case 4: return isDivided(word);
            case 5: return isRepeated(word);
            case 6: return inA(new StringBuilder(word).reverse().toString());
            default: return !inA(word);
        }
    }

    private static boolean isDivided(String word) {
        for (int i = 0; i <= word.length(); i++) {
            if (inA(word.substring(0, i)) && inB(word.substring(i))) {
                return true;
            }
        }
        return false;
    }

    private static boolean isRepeated(String word) {
        boolean[] reached = new boolean[word.length() + 1];
        reached[0] = true;
        for (int to = 1; to <= word.length(); to++) {
            for (int from = 0; from < to; from++) {
                reached[to] |= reached[from] && inA(word.substring(from, to));
            }
        }
        return reached[word.length()];
    }

    private static void putsTheSmallest() {
        StateShop shop = new StateShop();
        Check.build(shop, 0, "2 0 -1,2 +2,2 -2,2");
        Check.build(shop, 1, "2 0 -1,2 -1,1 +1,1");
        Check.due("a or b", shop.join(2, 1, 0, 1), 3);
        Check.due("a or b is in order", Check.show(shop, 2), "2 0 -1,1 +2,2 -2,2");
        Check.due("a and b", shop.join(2, 0, 0, 1), 1);
        Check.due("a and b takes none", Check.show(shop, 2), "2 0 -0,0");
        Check.due("a, then b", shop.join(2, 4, 0, 1), 4);
        Check.due("a, then b is in order", Check.show(shop, 2), "2 0 -1,2 -2,3 -2,2 +2,2");
        Check.due("the operands stay", Check.show(shop, 0) + " | " + Check.show(shop, 1),
            "2 0 -1,2 +2,2 -2,2 | 2 0 -1,2 -1,1 +1,1");
    }

    private static void mayBeOneOfThem() {
        StateShop shop = new StateShop();
        Check.read(shop, 0, 2, "a");
        Check.read(shop, 1, 2, "b");
        Check.due("into a", shop.join(0, 4, 0, 1), 4);
        Check.due("ab", Check.takes(shop, 0, "ab"), 1);
        Check.due("into b", shop.join(1, 4, 0, 1), 5);
        Check.due("abb", Check.takes(shop, 1, "abb"), 1);
        Check.due("with itself", shop.join(1, 3, 1, 1), 1);
    }

    /** What begins with an accepting START: 4 has b's START at first; 5 has a first set of its own. */
    private static void emptyWords() {
        StateShop shop = new StateShop();
        Check.read(shop, 0, 2, "a*");
        Check.read(shop, 1, 2, "b*");
        Check.due("a* then b*", shop.join(2, 4, 0, 1), 3);
        Check.due("a* then b* is in order", Check.show(shop, 2), "2 0 +0,1 +2,1 -2,2");
        Check.read(shop, 3, 2, "0");
        Check.due("none of none", shop.join(3, 5, 3, 3), 2);
        Check.due("the empty word alone", Check.show(shop, 3), "2 0 +1,1 -1,1");
        Check.due("the empty word again", shop.join(3, 5, 3, 3), 2);
        Check.due("the empty word turned", shop.join(3, 6, 3, 3), 2);
        Check.due("not the empty word", shop.join(3, 7, 3, 3), 2);
        Check.due("not the empty word is in order", Check.show(shop, 3), "2 0 -1,1 +1,1");
        // A START that is come to again must not make the first set accepting later.
        Check.build(shop, 4, "2 0 -0,1 +1,1");
        Check.due("a START that is come to again", shop.join(5, 5, 4, 4), 3);
        Check.due("it is in order", Check.show(shop, 5), "2 0 +1,2 -1,2 +2,2");
    }

    private static void roomOfSets() {
        StateShop shop = new StateShop();
        Check.build(shop, 0, Found.THEN_500_A);
        Check.build(shop, 1, Found.THEN_500_B);
        Check.due("then, 500 sets", shop.join(5, 4, 0, 1), 1);
        Check.build(shop, 0, Found.THEN_501_A);
        Check.build(shop, 1, Found.THEN_501_B);
        Check.due("then, 501 sets", shop.join(5, 4, 0, 1), ROOM);
        Check.build(shop, 0, Found.AGAIN_500);
        Check.due("again, 500 sets", shop.join(5, 5, 0, 0), 1);
        Check.build(shop, 0, Found.AGAIN_501);
        Check.due("again, 501 sets", shop.join(5, 5, 0, 0), ROOM);
        Check.due("behind ROOM nothing is changed", Check.show(shop, 5), "2 0 +0,0");
        // The machine is turned as it is, with the states that its START does not come to.
        Check.build(shop, 0, Found.from(10, Found.TURNS_TO_500) + " -10,10");
        Check.due("turned, 500 sets", shop.join(5, 6, 0, 0), 1);
        Check.build(shop, 0, Found.from(11, Found.TURNS_TO_501) + " -11,11");
        Check.due("turned, 501 sets", shop.join(5, 6, 0, 0), ROOM);
    }

    private static void roomOfStates() {
        StateShop shop = new StateShop();
        Check.build(shop, 0, Check.circle(4));
        Check.build(shop, 1, Check.circle(15));
        Check.due("60 states", shop.join(2, 0, 0, 1), 60);
        Check.due("60 pairs that are 4 states", shop.join(0, 1, 0, 2), 4);
        Check.build(shop, 3, "1 0 +1 -1");
        Check.due("61 states: the empty word less", shop.join(4, 2, 2, 3), ROOM);
        Check.build(shop, 1, Check.circle(59));
        Check.due("60 states: the empty word less", shop.join(5, 2, 1, 3), 60);
        Check.build(shop, 0, Check.circle(60));
        Check.due("3540 pairs", shop.join(4, 1, 0, 1), ROOM);
        Check.due("behind ROOM nothing is changed", Check.show(shop, 4), "1 0 -0");
        mostPairs(shop);
    }

    /** 3600 pairs: by a only the first part goes on, by b only the second; no state accepts. */
    private static void mostPairs(StateShop shop) {
        shop.make(0, 2, 60);
        shop.make(1, 2, 60);
        for (int s = 0; s < 60; s++) {
            shop.edge(0, s, 0, (s + 1) % 60);
            shop.edge(1, s, 1, (s + 1) % 60);
        }
        Check.due("3600 pairs without a word", shop.join(2, 3, 0, 1), 1);
        shop.accept(0, 0, true);
        Check.due("3600 pairs that are 60 states", shop.join(2, 1, 0, 1), 60);
        shop.accept(1, 0, true);
        Check.due("3600 pairs that are told apart", shop.join(2, 0, 0, 1), ROOM);
    }

    private static void wrongInputs() {
        StateShop shop = new StateShop();
        Check.build(shop, 0, "2 1 -0,0 +0,1");
        Check.due("join how -1", shop.join(0, -1, 0, 0), OUTSIDE);
        Check.due("join how 8", shop.join(0, 8, 0, 0), OUTSIDE);
        Check.due("join slot -1", shop.join(-1, 1, 0, 0), OUTSIDE);
        Check.due("join slot 6", shop.join(6, 1, 0, 0), OUTSIDE);
        Check.due("join a -1", shop.join(0, 1, -1, 0), OUTSIDE);
        Check.due("join a 6", shop.join(0, 7, 6, 0), OUTSIDE);
        Check.due("join b -1", shop.join(0, 1, 0, -1), OUTSIDE);
        Check.due("join b 6", shop.join(0, 4, 0, 6), OUTSIDE);
        Check.due("join not the same k", shop.join(0, 0, 0, 1), STATE);
        Check.due("join not the same k, then", shop.join(0, 4, 1, 0), STATE);
        Check.due("join wrong in both", shop.join(6, 0, 0, 1), OUTSIDE);
        Check.due("nothing is changed", Check.show(shop, 0), "2 1 -0,0 +0,1");
    }

    private static void bIsNotAsked() {
        StateShop shop = new StateShop();
        Check.build(shop, 0, "2 0 -0,1 +1,1");
        for (int how = 5; how < 8; how++) {
            Check.due("b of another k, how " + how, shop.join(2, how, 0, 1), how == 5 ? 3 : 2);
            Check.due("b is no slot, how " + how, shop.join(2, how, 0, 6), how == 5 ? 3 : 2);
        }
    }
}
