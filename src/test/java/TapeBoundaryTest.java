/** The boundary cases of promises 11, 12, 20 and 21, each by itself. */
public final class TapeBoundaryTest {
    private static final int NONE = StateShop.NONE, OUTSIDE = StateShop.OUTSIDE, ROOM = StateShop.ROOM;

    public static void main(String[] args) throws Exception {
        Sentences.run(TapeBoundaryTest.class);
    }

    private static void fill(StateShop shop, int bytes) {
        for (int i = 0; i < bytes; i += 20) {
            shop.feed(0x61616161, 0x61616161, 0x61616161, 0x61616161, 0x61616161);
        }
        shop.end(bytes);
    }

    // ---- Promise 11: feed

    @Says(at = "Promise 11", words = "Twenty bytes come behind the tape")
    static void feedOfAnEmptyTape(StateShop shop) {
        Check.due("feed", shop.feed(0, 0, 0, 0, 0), 20);
        Check.due("bytes()", shop.bytes(), 20);
    }

    @Says(at = "Promise 11", words = "each number's highest one first")
    static void feedOfTheLeastAndTheMostNumber(StateShop shop) {
        shop.feed(Integer.MIN_VALUE, Integer.MAX_VALUE, -1, 0, -2);
        int[] due = {128, 0, 0, 0, 127, 255, 255, 255, 255, 255, 255, 255, 0, 0, 0, 0, 255, 255, 255, 254};
        for (int i = 0; i < 20; i++) {
            Check.due("octet(" + i + ")", shop.octet(i), due[i]);
        }
    }

    @Says(at = "Promise 11", words = "Twenty bytes come behind the tape")
    static void feedBehindWhatWasCut(StateShop shop) {
        shop.feed(0x01020304, 0x05060708, 0, 0, 0);
        shop.end(3);
        Check.due("feed", shop.feed(0x0A0B0C0D, 0, 0, 0, 0x0E), 23);
        int[] due = {1, 2, 3, 10, 11, 12, 13, 0};
        for (int i = 0; i < due.length; i++) {
            Check.due("octet(" + i + ")", shop.octet(i), due[i]);
        }
        Check.due("octet(22)", shop.octet(22), 14);
    }

    @Says(at = "Promise 11", words = "ROOM, if there would be more than 500.")
    static void feedTo500(StateShop shop) {
        for (int i = 1; i <= 25; i++) {
            Check.due("feed " + i, shop.feed(i, i, i, i, i), 20 * i);
        }
        Check.due("octet(499)", shop.octet(499), 25);
    }

    @Says(at = "Promise 11", words = "ROOM, if there would be more than 500.")
    static void feedTo501(StateShop shop) {
        fill(shop, 481);
        Check.due("feed behind 481", shop.feed(1, 1, 1, 1, 1), ROOM);
    }

    @Says(at = "Promise 11", words = "ROOM, if there would be more than 500.")
    static void feedOfAFullTape(StateShop shop) {
        fill(shop, 500);
        Check.due("feed behind 500", shop.feed(1, 1, 1, 1, 1), ROOM);
    }

    @Says(at = "Promise 11", words = "ROOM, if there would be more than 500.")
    static void feedRefusedChangesNothing(StateShop shop) {
        fill(shop, 481);
        shop.feed(1, 1, 1, 1, 1);
        Check.due("bytes()", shop.bytes(), 481);
        Check.due("octet(480)", shop.octet(480), 'a');
        Check.due("octet(481)", shop.octet(481), NONE);
    }

    // ---- Promise 12: end

    @Says(at = "Promise 12", words = "OUTSIDE (n is below 0, or more than it has).")
    static void endBelow0(StateShop shop) {
        fill(shop, 20);
        Check.due("end(-1)", shop.end(-1), OUTSIDE);
        Check.due("end(least)", shop.end(Integer.MIN_VALUE), OUTSIDE);
    }

    @Says(at = "Promise 12", words = "OUTSIDE (n is below 0, or more than it has).")
    static void endOfMoreThanItHas(StateShop shop) {
        Check.due("end(1) of an empty tape", shop.end(1), OUTSIDE);
        fill(shop, 20);
        Check.due("end(21) of 20", shop.end(21), OUTSIDE);
        Check.due("end(most) of 20", shop.end(Integer.MAX_VALUE), OUTSIDE);
        fill(shop, 500);
        Check.due("end(501) of 500", shop.end(501), OUTSIDE);
    }

    @Says(at = "Promise 12", words = "OUTSIDE (n is below 0, or more than it has).")
    static void endRefusedChangesNothing(StateShop shop) {
        fill(shop, 20);
        shop.end(-1);
        Check.due("bytes() behind end(-1)", shop.bytes(), 20);
        shop.end(21);
        Check.due("bytes() behind end(21)", shop.bytes(), 20);
    }

    @Says(at = "Promise 12", words = "The tape is cut behind its first n bytes: 1.")
    static void endOfAllThatItHas(StateShop shop) {
        fill(shop, 500);
        Check.due("end(500)", shop.end(500), 1);
        Check.due("bytes()", shop.bytes(), 500);
    }

    @Says(at = "Promise 12", words = "The tape is cut behind its first n bytes: 1.")
    static void endOfNothing(StateShop shop) {
        Check.due("end(0) of an empty tape", shop.end(0), 1);
        fill(shop, 20);
        Check.due("end(0) of 20", shop.end(0), 1);
        Check.due("bytes()", shop.bytes(), 0);
    }

    @Says(at = "Promise 12", words = "The tape is cut behind its first n bytes: 1.")
    static void whatIsCutIsGone(StateShop shop) {
        fill(shop, 20);
        shop.end(19);
        Check.due("octet(18)", shop.octet(18), 'a');
        Check.due("octet(19)", shop.octet(19), NONE);
        Check.due("end(20)", shop.end(20), OUTSIDE);
    }

    // ---- Promise 20: octet

    @Says(at = "Promise 20", words = "Byte k of the tape; NONE.")
    static void octetBelow0(StateShop shop) {
        fill(shop, 20);
        Check.due("octet(0)", shop.octet(0), 'a');
        Check.due("octet(-1)", shop.octet(-1), NONE);
        Check.due("octet(least)", shop.octet(Integer.MIN_VALUE), NONE);
    }

    @Says(at = "Promise 20", words = "Byte k of the tape; NONE.")
    static void octetBehindTheLast(StateShop shop) {
        Check.due("octet(0) of an empty tape", shop.octet(0), NONE);
        fill(shop, 20);
        Check.due("octet(19) of 20", shop.octet(19), 'a');
        Check.due("octet(20) of 20", shop.octet(20), NONE);
        fill(shop, 500);
        Check.due("octet(499) of 500", shop.octet(499), 'a');
        Check.due("octet(500) of 500", shop.octet(500), NONE);
        Check.due("octet(most) of 500", shop.octet(Integer.MAX_VALUE), NONE);
    }

    @Says(at = "Promise 20", words = "Byte k of the tape; NONE.")
    static void octetOfTheLargestByteIsNotNone(StateShop shop) {
        shop.feed(-1, 0, 0, 0, 0);
        Check.due("octet(0)", shop.octet(0), 255);
        Check.due("octet(4)", shop.octet(4), 0);
    }

    // ---- Promise 21: bytes

    @Says(at = "Promise 21", words = "How many bytes the tape has.")
    static void bytesOfAnEmptyAndAFullTape(StateShop shop) {
        Check.due("bytes() of an empty tape", shop.bytes(), 0);
        fill(shop, 500);
        Check.due("bytes() of a full tape", shop.bytes(), 500);
        shop.end(1);
        Check.due("bytes() of a tape of one", shop.bytes(), 1);
    }
}
