/** Promise 9: smaller, in its three ways. */
public final class SmallerTest {
    private static final String EVEN_WIDE = "2 0 +1,2 -2,3 +3,0 -0,1 +4,4";
    private static final String EVEN = "2 0 +1,0 -0,1";
    private static final String CHAIN = "1 0 -1 -2 -3 +3";

    public static void main(String[] args) {
        allWaysPutTheSmallest();
        rounds();
        splitters();
        turning();
        wrongInputs();
        Check.finish();
    }

    private static void shrink(String shown, int way, int told, String small) {
        StateShop shop = new StateShop();
        Check.build(shop, 0, shown);
        Check.due("smaller by way " + way + " of " + shown, shop.smaller(0, way), told);
        Check.due("smallest by way " + way + " of " + shown, Check.show(shop, 0), small);
    }

    private static void allWaysPutTheSmallest() {
        // Alike, not come to, and out of order: all of it is mended.
        String wide = "2 4 -2,2 +0,3 -0,2 +0,1 -3,5 -0,4 +6,6";
        String small = "2 0 -1,2 +3,1 -3,0 -3,3";
        for (int way = 0; way < 3; way++) {
            StateShop shop = new StateShop();
            Check.build(shop, 0, wide);
            shop.smaller(0, way);
            Check.due("smallest by way " + way, Check.show(shop, 0), small);
            shop.smaller(0, way);
            Check.due("smallest stays by way " + way, Check.show(shop, 0), small);
        }
    }

    private static void rounds() {
        shrink(EVEN_WIDE, 0, 1, EVEN);
        shrink(CHAIN, 0, 3, CHAIN);
        shrink("1 1 +0 +0", 0, 1, "1 0 +0");
        shrink("3 1 -0,1,0 -0,1,1", 0, 1, "3 0 -0,0,0");
        shrink(Check.circle(60), 0, 59, Check.circle(60));
        StateShop shop = new StateShop();
        Check.due("smaller of a new slot", shop.smaller(5, 0), 1);
    }

    private static void splitters() {
        // Of like blocks, block 1 comes into the row: a and b of it are taken, nothing is divided.
        shrink(EVEN_WIDE, 1, 2, EVEN);
        // (1, a), (2, a), (3, a): the new block is never the larger one.
        shrink(CHAIN, 1, 3, CHAIN);
        // One block: no pair comes into the row.
        shrink("1 1 +0 +0", 1, 0, "1 0 +0");
        shrink("3 1 -0,1,0 -0,1,1", 1, 0, "3 0 -0,0,0");
        shrink("2 0 -1,2 -3,0 -1,3 +3,3", 1, 6, "2 0 -1,2 -3,0 -1,3 +3,3");
    }

    private static void turning() {
        shrink(EVEN_WIDE, 2, 2, EVEN);
        shrink(CHAIN, 2, 4, CHAIN);
        shrink("1 1 +0 +0", 2, 1, "1 0 +0");
        shrink("3 1 -0,1,0 -0,1,1", 2, 1, "3 0 -0,0,0");
        shrink(Found.TURNS_TO_500, 2, 500, Found.TURNS_TO_500);
        shrink(Found.TURNS_TO_501, 2, StateShop.ROOM, Found.TURNS_TO_501);
        // Only states that the START comes to are looked at; and behind ROOM it is not even in order.
        shrink(Found.from(11, Found.TURNS_TO_501) + " +11,11", 2, 1, "2 0 +0,0");
        shrink(Found.TURNS_TO_501 + " +11,11", 2, StateShop.ROOM, Found.TURNS_TO_501 + " +11,11");
    }

    private static void wrongInputs() {
        StateShop shop = new StateShop();
        Check.build(shop, 2, EVEN_WIDE);
        Check.due("smaller way -1", shop.smaller(2, -1), StateShop.OUTSIDE);
        Check.due("smaller way 3", shop.smaller(2, 3), StateShop.OUTSIDE);
        Check.due("smaller slot -1", shop.smaller(-1, 0), StateShop.OUTSIDE);
        Check.due("smaller slot 6", shop.smaller(6, 2), StateShop.OUTSIDE);
        Check.due("nothing is changed", Check.show(shop, 2), EVEN_WIDE);
    }
}
