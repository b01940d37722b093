import java.lang.management.ManagementFactory;
import java.util.Random;

/** No call throws, whatever it is asked, and none makes objects: all rows are made with the object. */
public final class RoomTest {
    private static final int[] EDGES = {Integer.MIN_VALUE, Integer.MIN_VALUE + 1, -1001, -105, -2, -1, 0, 1, 2, 3, 4, 5,
        6, 7, 8, 30, 31, 59, 60, 61, 499, 500, 501, 1000000, Integer.MAX_VALUE - 1, Integer.MAX_VALUE};
    private static final long[] LONG_EDGES = {Long.MIN_VALUE, -1, 0, 1, 1L << 32, 1L << 60, Long.MAX_VALUE};

    private final Random dice;
    private final StateShop shop = new StateShop();

    private RoomTest(long seed) {
        dice = new Random(seed);
    }

    public static void main(String[] args) {
        for (int seed = 0; seed < 500; seed++) {
            RoomTest run = new RoomTest(seed);
            for (int call = 0; call < 512; call++) {
                run.call();
            }
        }
        makesNoObjects();
        Check.finish();
    }

    private int some() {
        return dice.nextBoolean() ? dice.nextInt(6) : EDGES[dice.nextInt(EDGES.length)];
    }

    private long call() {
        int a = some(), b = some(), c = some(), d = some(), e = some();
        switch (dice.nextInt(24)) {
            case 0: return shop.make(a, b, c);
            case 1: return shop.edge(a, b, c, d);
            case 2: return shop.accept(a, b, dice.nextBoolean());
            case 3: return shop.start(a, b);
            case 4: return shop.about(a, b);
            case 5: return shop.to(a, b, c);
            case 6: return shop.order(a);
            case 7: return shop.smaller(a, b);
            case 8: return shop.join(a, b, c, d);
            case 9: return shop.feed(a, b, c, d, e);
            case 10: return shop.end(a);
            case 11: return shop.read(a, b);
            case 12: return shop.takes(a);
            case 13: return shop.same(a, b);
            case 14: return shop.apart(a, b, c);
            case 15: return shop.words(a, b);
            case 16: return shop.word(a, LONG_EDGES[dice.nextInt(LONG_EDGES.length)]);
            case 17: return shop.number(a);
            case 18: return shop.octet(a);
            case 19: return shop.bytes();
            case 20: return shop.mappings(a);
            case 21: return shop.maps(a, b);
            case 22: return shop.mapping(a);
            default: return shop.make(dice.nextInt(6), 2, 1 + dice.nextInt(60));
        }
    }

    private static long allocated() {
        com.sun.management.ThreadMXBean bean = (com.sun.management.ThreadMXBean) ManagementFactory.getThreadMXBean();
        return bean.getThreadAllocatedBytes(Thread.currentThread().getId());
    }

    private static void makesNoObjects() {
        allocated();
        long before = allocated();
        StateShop shop = new StateShop();
        long made = allocated() - before;
        Check.due("an object has less than 200,000 elements: its bytes", Math.max(made, 800_000), 800_000);
        String expression = "((a|b)*ab+|b?a)*&!(.*bb.*)";
        int[] numbers = new int[10];
        for (int i = 0; i < 10; i++) {
            numbers[i] = Check.four(expression, i * 4);
        }
        before = allocated();
        for (int i = 0; i < 20; i++) {
            allCalls(shop, numbers, expression.length());
        }
        made = allocated() - before;
        // The Java machine itself may make a little beside; one row a call would be far more than this.
        Check.due("calls make no objects: their bytes", Math.max(made, 2_000), 2_000);
    }

    private static void allCalls(StateShop shop, int[] numbers, int length) {
        shop.feed(numbers[0], numbers[1], numbers[2], numbers[3], numbers[4]);
        shop.feed(numbers[5], numbers[6], numbers[7], numbers[8], numbers[9]);
        shop.end(length);
        shop.read(0, 2);
        for (int how = 0; how < 8; how++) {
            shop.join(1, how, 0, 0);
        }
        for (int way = 0; way < 3; way++) {
            shop.smaller(1, way);
        }
        shop.order(1);
        shop.same(0, 1);
        shop.apart(0, 0, 1);
        shop.words(0, 30);
        shop.word(0, 1000);
        shop.number(0);
        shop.takes(0);
        shop.end(0);
        shop.mappings(0);
        for (int what = 0; what < 5; what++) {
            shop.mapping(what);
        }
    }
}
