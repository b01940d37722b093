/** Promises 22 to 24: mappings, maps, mapping. */
public final class MappingsTest {
    private static final int NONE = StateShop.NONE, OUTSIDE = StateShop.OUTSIDE, ROOM = StateShop.ROOM;

    public static void main(String[] args) {
        before();
        found();
        facts();
        room();
        Check.finish();
    }

    private static void before() {
        StateShop shop = new StateShop();
        Check.due("mapping before any", shop.mapping(0), NONE);
        Check.due("mapping 4 before any", shop.mapping(4), NONE);
        Check.due("mapping 5 before any", shop.mapping(5), OUTSIDE);
        Check.due("mapping -1 before any", shop.mapping(-1), OUTSIDE);
        Check.due("maps before any", shop.maps(0, 0), OUTSIDE);
        Check.due("mappings of slot -1", shop.mappings(-1), OUTSIDE);
        Check.due("mappings of slot 6", shop.mappings(6), OUTSIDE);
        Check.due("mapping is still before any", shop.mapping(0), NONE);
    }

    private static void found() {
        StateShop shop = new StateShop();
        // Three states behind one that is like the START's, and a state that is not come to.
        Check.build(shop, 0, "2 3 +1,0 -2,2 -2,2 +1,3 -0,0");
        // Smallest: 0 +1,0; 1 -1,1.
        Check.due("mappings", shop.mappings(0), 2);
        Check.due("the slot stays", Check.show(shop, 0), "2 3 +1,0 -2,2 -2,2 +1,3 -0,0");
        String rows = rows(shop, 2, 2);
        Check.due("the mappings", rows, "0 1;1 1;");
        Check.read(shop, 1, 2, "(ab)*");
        Check.due("mappings of (ab)*", shop.mappings(1), 6);
        Check.due("as they are met", rows(shop, 6, 3), "0 1 2;1 2 2;2 0 2;2 2 2;0 2 2;2 1 2;");
        Check.due("maps i -1", shop.maps(-1, 0), OUTSIDE);
        Check.due("maps i 6", shop.maps(6, 0), OUTSIDE);
        Check.due("maps state -1", shop.maps(0, -1), OUTSIDE);
        Check.due("maps state 3", shop.maps(0, 3), OUTSIDE);
        // What is found stays, whatever the slot becomes, until others are found.
        shop.make(1, 1, 1);
        Check.due("mappings of no slot", shop.mappings(6), OUTSIDE);
        Check.due("they stay", rows(shop, 6, 3), "0 1 2;1 2 2;2 0 2;2 2 2;0 2 2;2 1 2;");
        Check.due("facts stay", shop.mapping(0), 4);
    }

    private static String rows(StateShop shop, int count, int states) {
        StringBuilder text = new StringBuilder();
        for (int i = 0; i < count; i++) {
            for (int s = 0; s < states; s++) {
                text.append(s == 0 ? "" : " ").append(shop.maps(i, s));
            }
            text.append(';');
        }
        return text.toString();
    }

    private static void facts(String shown, int... due) {
        StateShop shop = new StateShop();
        Check.build(shop, 0, shown);
        Check.due("mappings of " + shown, shop.mappings(0), due[0]);
        for (int what = 0; what < 5; what++) {
            Check.due("mapping " + what + " of " + shown, shop.mapping(what), due[what + 1]);
        }
        Check.due("mapping -1", shop.mapping(-1), OUTSIDE);
        Check.due("mapping 5", shop.mapping(5), OUTSIDE);
    }

    private static void facts() {
        // One state: its only mapping maps all to one, and no two to one.
        facts("1 0 +0", 1, 1, 1, 1, 1, 1);
        // (ab)*: does not become periodic, but cares for the order.
        facts("2 0 +1,2 -2,0 -2,2", 6, 4, 1, 0, 1, 1);
        // A circle of 60: all are one to one, the order is not cared for, only the first is the same twice.
        facts(Check.circle(60), 60, 1, 0, 1, 0, 60);
        // A chain of 60 that is left for good: the 59th on maps all to one.
        facts(chain(60), 60, 2, 1, 1, 1, 1);
        // A set of what has been met: all are the same twice, in any order.
        facts("2 0 -1,2 -1,3 -3,2 +3,3", 4, 4, 1, 1, 1, 1);
        // The last letter: all but the first map all to one.
        facts("2 0 -1,0 +1,0", 3, 3, 1, 0, 2, 1);
        // All that can be done with three states.
        facts("3 0 +1,1,0 -2,0,1 -0,2,0", 27, 10, 0, 0, 3, 6);
    }

    private static void room() {
        StateShop shop = new StateShop();
        Check.build(shop, 0, Found.MAPS_400);
        Check.due("400 mappings", shop.mappings(0), 400);
        Check.due("the last one", shop.maps(399, 5) >= 0 ? 1 : 0, 1);
        Check.due("mapping 4 of 400", shop.mapping(4) > 0 ? 1 : 0, 1);
        Check.build(shop, 1, Found.MAPS_401);
        Check.due("401 mappings", shop.mappings(1), ROOM);
        Check.due("mapping behind ROOM", shop.mapping(0), NONE);
        Check.due("mapping 5 behind ROOM", shop.mapping(5), OUTSIDE);
        Check.due("maps behind ROOM", shop.maps(0, 0), OUTSIDE);
        Check.due("mappings behind ROOM", shop.mappings(0), 400);
    }

    private static String chain(int n) {
        StringBuilder text = new StringBuilder("1 0");
        for (int s = 0; s < n; s++) {
            text.append(s == n - 1 ? " +" : " -").append(Math.min(s + 1, n - 1));
        }
        return text.toString();
    }
}
