/** Promises 11, 12, 20, 21: feed, end, octet, bytes. */
public final class TapeTest {
    public static void main(String[] args) {
        StateShop shop = new StateShop();
        Check.due("bytes at first", shop.bytes(), 0);
        Check.due("octet at first", shop.octet(0), StateShop.NONE);
        Check.due("feed", shop.feed(0x01020304, 0xFFFEFDFC, 0, Integer.MIN_VALUE, Integer.MAX_VALUE), 20);
        int[] due = {1, 2, 3, 4, 255, 254, 253, 252, 0, 0, 0, 0, 128, 0, 0, 0, 127, 255, 255, 255};
        for (int i = 0; i < 20; i++) {
            Check.due("octet " + i, shop.octet(i), due[i]);
        }
        Check.due("octet 20", shop.octet(20), StateShop.NONE);
        Check.due("octet -1", shop.octet(-1), StateShop.NONE);
        Check.due("octet least", shop.octet(Integer.MIN_VALUE), StateShop.NONE);
        Check.due("octet most", shop.octet(Integer.MAX_VALUE), StateShop.NONE);
        Check.due("end 21", shop.end(21), StateShop.OUTSIDE);
        Check.due("end -1", shop.end(-1), StateShop.OUTSIDE);
        Check.due("bytes are kept", shop.bytes(), 20);
        Check.due("end 20", shop.end(20), 1);
        Check.due("end 5", shop.end(5), 1);
        Check.due("bytes 5", shop.bytes(), 5);
        Check.due("octet 4", shop.octet(4), 255);
        Check.due("octet 5 is gone", shop.octet(5), StateShop.NONE);
        Check.due("feed behind", shop.feed(9, 0, 0, 0, 7), 25);
        Check.due("octet 4 stays", shop.octet(4), 255);
        Check.due("octet 8", shop.octet(8), 9);
        Check.due("octet 24", shop.octet(24), 7);
        full(shop);
        Check.finish();
    }

    private static void full(StateShop shop) {
        shop.end(0);
        for (int i = 1; i <= 25; i++) {
            Check.due("feed " + i, shop.feed(i, i, i, i, i), 20 * i);
        }
        Check.due("feed of a full tape", shop.feed(1, 1, 1, 1, 1), StateShop.ROOM);
        Check.due("bytes of a full tape", shop.bytes(), 500);
        Check.due("octet 499", shop.octet(499), 25);
        Check.due("octet 500", shop.octet(500), StateShop.NONE);
        Check.due("end 481", shop.end(481), 1);
        Check.due("feed to 501", shop.feed(1, 1, 1, 1, 1), StateShop.ROOM);
        Check.due("bytes 481", shop.bytes(), 481);
        Check.due("end 480", shop.end(480), 1);
        Check.due("feed to 500", shop.feed(1, 1, 1, 1, 1), 500);
    }
}
