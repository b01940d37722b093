/** Promises 1 to 8: a new object, make, edge, accept, start, about, to, order. */
public final class MachinesTest {
    private static final int OUTSIDE = StateShop.OUTSIDE;

    public static void main(String[] args) {
        newObject();
        make();
        edge();
        accept();
        start();
        about();
        to();
        order();
        Check.finish();
    }

    private static void newObject() {
        StateShop shop = new StateShop();
        for (int slot = 0; slot < 6; slot++) {
            Check.due("a new slot " + slot, Check.show(shop, slot), "1 0 -0");
        }
        Check.due("a new tape", shop.bytes(), 0);
        Check.due("new mappings", shop.mapping(0), StateShop.NONE);
    }

    private static void make() {
        StateShop shop = new StateShop();
        Check.build(shop, 3, "2 1 +1,0 +0,0");
        Check.due("make(3, 3, 2)", shop.make(3, 3, 2), 1);
        Check.due("make again", Check.show(shop, 3), "3 0 -0,0,0 -1,1,1");
        Check.due("make(0, 4, 60)", shop.make(0, 4, 60), 1);
        Check.due("make(0, 1, 1)", shop.make(0, 1, 1), 1);
        for (int[] wrong : new int[][] {{-1, 1, 1}, {6, 1, 1}, {3, 0, 1}, {3, 5, 1}, {3, 1, 0}, {3, 1, 61},
            {3, -1, 1}, {3, 1, -1}, {Integer.MIN_VALUE, 1, 1}, {3, Integer.MAX_VALUE, Integer.MAX_VALUE}}) {
            Check.due("make wrong", shop.make(wrong[0], wrong[1], wrong[2]), OUTSIDE);
        }
        Check.due("make wrong changes nothing", Check.show(shop, 3), "3 0 -0,0,0 -1,1,1");
    }

    private static void edge() {
        StateShop shop = new StateShop();
        shop.make(5, 4, 60);
        Check.due("edge", shop.edge(5, 59, 3, 0), 59);
        Check.due("edge again", shop.edge(5, 59, 3, 58), 0);
        Check.due("edge went", shop.to(5, 59, 3), 58);
        Check.due("another letter stays", shop.to(5, 59, 2), 59);
        for (int[] wrong : new int[][] {{-1, 0, 0, 0}, {6, 0, 0, 0}, {5, -1, 0, 0}, {5, 60, 0, 0}, {5, 0, -1, 0},
            {5, 0, 4, 0}, {5, 0, 0, -1}, {5, 0, 0, 60}, {0, 0, 1, 0}, {0, 1, 0, 0}, {0, 0, 0, 1}}) {
            Check.due("edge wrong", shop.edge(wrong[0], wrong[1], wrong[2], wrong[3]), OUTSIDE);
        }
    }

    private static void accept() {
        StateShop shop = new StateShop();
        shop.make(1, 1, 3);
        Check.due("accept", shop.accept(1, 2, true), 0);
        Check.due("accept again", shop.accept(1, 2, true), 1);
        Check.due("accept off", shop.accept(1, 2, false), 1);
        Check.due("accept off again", shop.accept(1, 2, false), 0);
        Check.due("accept slot -1", shop.accept(-1, 0, true), OUTSIDE);
        Check.due("accept slot 6", shop.accept(6, 0, true), OUTSIDE);
        Check.due("accept state -1", shop.accept(1, -1, true), OUTSIDE);
        Check.due("accept state 3", shop.accept(1, 3, true), OUTSIDE);
        Check.due("none accepting", shop.about(1, 3), 0);
    }

    private static void start() {
        StateShop shop = new StateShop();
        shop.make(1, 1, 3);
        Check.due("start", shop.start(1, 2), 0);
        Check.due("start again", shop.start(1, 1), 2);
        Check.due("start slot -1", shop.start(-1, 0), OUTSIDE);
        Check.due("start slot 6", shop.start(6, 0), OUTSIDE);
        Check.due("start state -1", shop.start(1, -1), OUTSIDE);
        Check.due("start state 3", shop.start(1, 3), OUTSIDE);
        Check.due("the START", shop.about(1, 2), 1);
    }

    private static void about() {
        StateShop shop = new StateShop();
        Check.build(shop, 4, "3 2 +0,1,2 -3,3,3 +0,0,0 +1,1,1");
        Check.due("about k", shop.about(4, 0), 3);
        Check.due("about n", shop.about(4, 1), 4);
        Check.due("about START", shop.about(4, 2), 2);
        Check.due("about accepting", shop.about(4, 3), 3);
        Check.due("about -1", shop.about(4, -1), OUTSIDE);
        Check.due("about 4", shop.about(4, 4), OUTSIDE);
        Check.due("about slot -1", shop.about(-1, 0), OUTSIDE);
        Check.due("about slot 6", shop.about(6, 0), OUTSIDE);
    }

    private static void to() {
        StateShop shop = new StateShop();
        Check.build(shop, 2, "2 0 -1,0 +0,1");
        Check.due("to(2, 0, 0)", shop.to(2, 0, 0), 1);
        Check.due("to(2, 1, 1)", shop.to(2, 1, 1), 1);
        Check.due("to(2, 0, NONE)", shop.to(2, 0, -1), 0);
        Check.due("to(2, 1, NONE)", shop.to(2, 1, -1), 1);
        Check.due("to letter 2", shop.to(2, 0, 2), OUTSIDE);
        Check.due("to letter -2", shop.to(2, 0, -2), OUTSIDE);
        Check.due("to state -1", shop.to(2, -1, 0), OUTSIDE);
        Check.due("to state 2", shop.to(2, 2, -1), OUTSIDE);
        Check.due("to slot -1", shop.to(-1, 0, 0), OUTSIDE);
        Check.due("to slot 6", shop.to(6, 0, 0), OUTSIDE);
    }

    private static void order() {
        StateShop shop = new StateShop();
        // From 3: by a to 1, by b to 3; from 1: by a to 0, by b to 1. State 2 is not come to.
        Check.build(shop, 0, "2 3 +1,1 -0,1 +0,0 -1,3");
        Check.due("order", shop.order(0), 3);
        Check.due("in order", Check.show(shop, 0), "2 0 -1,0 -2,1 +1,1");
        Check.due("order again", shop.order(0), 3);
        Check.due("in order again", Check.show(shop, 0), "2 0 -1,0 -2,1 +1,1");
        // States that are alike are not made one.
        Check.build(shop, 1, "1 1 +0 +0");
        Check.due("order keeps like ones", shop.order(1), 2);
        Check.due("order of like ones", Check.show(shop, 1), "1 0 +1 +1");
        Check.build(shop, 2, chain(60));
        Check.due("order of 60", shop.order(2), 60);
        Check.due("the START of 60", shop.about(2, 2), 0);
        Check.due("state 0 goes on", shop.to(2, 0, 0), 1);
        Check.due("state 59 stays", shop.to(2, 59, 0), 59);
        Check.due("order slot -1", shop.order(-1), OUTSIDE);
        Check.due("order slot 6", shop.order(6), OUTSIDE);
    }

    /** Each state goes to that before it; the last one is the START. */
    private static String chain(int n) {
        StringBuilder text = new StringBuilder("1 " + (n - 1));
        for (int s = 0; s < n; s++) {
            text.append(" -").append(Math.max(s - 1, 0));
        }
        return text.toString();
    }
}
