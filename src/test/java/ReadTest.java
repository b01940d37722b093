/** Promise 13: read. */
public final class ReadTest {
    private static final int ROOM = StateShop.ROOM;

    public static void main(String[] args) {
        parts();
        binding();
        letters();
        faults();
        open();
        room();
        tapeAndSlot();
        longExpressions();
        Check.finish();
    }

    private static void is(String expression, int k, String shown) {
        StateShop shop = new StateShop();
        int states = Check.read(shop, 0, k, expression);
        Check.due("read " + expression, Check.show(shop, 0), shown);
        Check.due("states of " + expression, states, shop.about(0, 1));
    }

    private static void alike(String expression, String other, int k) {
        StateShop shop = new StateShop();
        Check.read(shop, 0, k, expression);
        Check.due("read " + other, Check.read(shop, 1, k, other), shop.about(0, 1));
        Check.due(expression + " as " + other, Check.show(shop, 0), Check.show(shop, 1));
    }

    private static void fault(String expression, int k, int place) {
        StateShop shop = new StateShop();
        Check.due("fault of " + expression, Check.read(shop, 0, k, expression), -1000 - place);
        Check.due("the slot stays", Check.show(shop, 0), "1 0 -0");
        Check.due("the tape is used up", shop.bytes(), 0);
    }

    private static void parts() {
        is("", 2, "2 0 +1,1 -1,1");
        is("()", 1, "1 0 +1 -1");
        is("0", 3, "3 0 -0,0,0");
        is(".", 2, "2 0 -1,1 +2,2 -2,2");
        is("a", 2, "2 0 -1,2 +2,2 -2,2");
        is("b", 2, "2 0 -1,2 -1,1 +1,1");
        is("a", 1, "1 0 -1 +2 -2");
        is("ab", 2, "2 0 -1,2 -2,3 -2,2 +2,2");
        is("a*", 2, "2 0 +0,1 -1,1");
        is("a+", 2, "2 0 -1,2 +1,2 -2,2");
        is("a?", 2, "2 0 +1,2 +2,2 -2,2");
        is("a|b", 2, "2 0 -1,1 +2,2 -2,2");
        is("a*&.", 2, "2 0 -1,2 +2,2 -2,2");
        is("!a", 2, "2 0 +1,2 -2,2 +2,2");
        is("!0", 2, "2 0 +0,0");
        is("0*", 1, "1 0 +1 -1");
        is("(a|)", 1, "1 0 +1 +2 -2");
    }

    private static void binding() {
        alike("a|b&ab|c", "a|(b&(ab))|c", 3);
        alike("ab*", "a(b*)", 2);
        alike("!a*", "(!a)*", 2);
        alike("!!a", "a", 2);
        alike("!(a)b", "(!a)b", 2);
        alike("a*+?", "a*", 2);
        alike("a?+", "a*", 2);
        alike("a++", "a+", 2);
        alike("|", "", 2);
        alike("&", "", 2);
        alike("a&", "0", 2);
        alike("a||b", "a|b|", 2);
        alike("(a|b)(a|b)", "..", 2);
        alike("((((a))))", "a", 2);
    }

    private static void letters() {
        is("d", 4, "4 0 -1,1,1,2 -1,1,1,1 +1,1,1,1");
        fault("d", 3, 0);
        fault("ab", 1, 1);
        fault("e", 4, 0);
        fault("a`", 4, 1);
        fault("A", 4, 0);
        fault("1", 4, 0);
    }

    private static void faults() {
        fault("*", 2, 0);
        fault("+a", 2, 0);
        fault("a|?", 2, 2);
        fault("(*)", 2, 1);
        fault(")", 2, 0);
        fault("a)", 2, 1);
        fault("(a))", 2, 3);
        fault("(", 2, 1);
        fault("(a", 2, 2);
        fault("(a|", 2, 3);
        fault("!", 2, 1);
        fault("!)", 2, 1);
        fault("(!)", 2, 2);
        fault("!*", 2, 1);
        fault("!|a", 2, 1);
        fault("a b", 2, 1);
        fault(" a", 2, 0);
        fault("ab\0", 2, 2);
        fault("a\u00E1", 2, 1);
        fault("ab*c*)(", 2, 3);
    }

    private static void open() {
        alike("(".repeat(30) + "a" + ")".repeat(30), "a", 2);
        alike("!".repeat(30) + "a", "a", 2);
        alike("!(".repeat(15) + "a" + ")".repeat(15), "!a", 2);
        alike("(!a)" + "(a)(a)!a!a".repeat(3), "!a" + "aa!a!a".repeat(3), 2);
        fault("(".repeat(31) + "a" + ")".repeat(31), 2, 30);
        fault("!".repeat(31) + "a", 2, 30);
        fault("a|" + "!(".repeat(15) + "!a" + ")".repeat(15), 2, 32);
        fault("(".repeat(30), 2, 30);
        fault("!".repeat(30), 2, 30);
        // What is closed is not open any more.
        alike("(a)".repeat(40), "a".repeat(40), 1);
        alike("!a".repeat(3) + "|" + "(!b)".repeat(40), "!b".repeat(40) + "|!a!a!a", 2);
    }

    private static void room() {
        StateShop shop = new StateShop();
        Check.due("58 letters", Check.read(shop, 0, 1, "a".repeat(58)), 60);
        Check.due("59 letters", Check.read(shop, 0, 1, "a".repeat(59)), ROOM);
        Check.due("the slot stays", shop.about(0, 1), 60);
        Check.due("the tape is used up", shop.bytes(), 0);
        Check.due("a part that is not needed", Check.read(shop, 0, 1, "0&" + "a".repeat(59)), ROOM);
        Check.due("a part that would be cut", Check.read(shop, 0, 2, "(.*a.....)&0"), ROOM);
        String coins = "(" + "a".repeat(7) + "|" + "a".repeat(13) + ")";
        Check.due("before a star", Check.read(shop, 0, 1, coins + "&0"), 1);
        Check.due("a star that is too large", Check.read(shop, 0, 1, coins + "*&0"), ROOM);
        Check.due("+ makes a star", Check.read(shop, 0, 1, coins + "+&0"), ROOM);
        String circle = "!((" + "a".repeat(15) + ")*&(aaaa)*)";
        Check.due("before ?", Check.read(shop, 0, 1, circle), 60);
        Check.due("? makes a state more", Check.read(shop, 0, 1, circle + "?"), ROOM);
        Check.due("a fault behind ROOM", Check.read(shop, 0, 1, "a".repeat(70) + ")"), -1070);
        Check.due("the end behind ROOM", Check.read(shop, 0, 1, "a".repeat(70) + "("), -1071);
        Check.due("what comes behind ROOM", Check.read(shop, 0, 1, "a".repeat(70) + "(a|a)*&!0?+"), ROOM);
        Check.due("and then no more ROOM", Check.read(shop, 0, 1, "a"), 3);
    }

    private static void tapeAndSlot() {
        StateShop shop = new StateShop();
        Check.put(shop, "ab");
        Check.due("read slot -1", shop.read(-1, 2), StateShop.OUTSIDE);
        Check.due("read slot 6", shop.read(6, 2), StateShop.OUTSIDE);
        Check.due("read k 0", shop.read(0, 0), StateShop.OUTSIDE);
        Check.due("read k 5", shop.read(0, 5), StateShop.OUTSIDE);
        Check.due("the tape stays", Check.tape(shop), "ab");
        Check.due("read", shop.read(5, 2), 4);
        Check.due("the tape is used up", shop.bytes(), 0);
        Check.due("read of nothing", shop.read(5, 2), 2);
    }

    private static void longExpressions() {
        StateShop shop = new StateShop();
        Check.due("500 bytes", Check.read(shop, 0, 2, "a|".repeat(249) + "ab"), 4);
        Check.due("500 stars", Check.read(shop, 0, 2, "a" + "*+?".repeat(166) + "*"), 2);
        Check.due("500 bytes and a fault", Check.read(shop, 0, 2, "a|".repeat(249) + "a("), -1500);
        // Each level has something from each rule on the stack, and the deepest one a helper.
        String deep = "b|a&b(".repeat(30) + "a+" + ")".repeat(30);
        Check.due("all levels at once", Check.read(shop, 0, 2, deep), 3);
        String kept = "|.*&" + "(a|.*&".repeat(29) + "a(b?a+)" + ")".repeat(29);
        Check.due("all levels are kept", Check.read(shop, 0, 2, kept), 5);
    }
}
