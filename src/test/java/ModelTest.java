import java.util.Random;

/** Runs of calls that are drawn from fixed seeds, each answered by StateShop and by the naive Model. */
public final class ModelTest {
    private static final String ALPHABET = "aabbcd..0()()!*+?|&";

    private final Random dice;
    private final StateShop shop = new StateShop();
    private final Model model = new Model();
    private final String name;
    private int most;

    private ModelTest(long seed) {
        dice = new Random(seed);
        name = "seed " + seed + ": ";
    }

    public static void main(String[] args) {
        int seeds = args.length > 0 ? Integer.parseInt(args[0]) : 400;
        int from = args.length > 1 ? Integer.parseInt(args[1]) : 0;
        for (int seed = from; seed < from + seeds; seed++) {
            new ModelTest(seed).run();
            new ModelTest(seed).shrinkInAllWays();
        }
        Check.finish();
    }

    private void run() {
        int[] sizes = {2, 4, 7, 10, 14, 60};
        most = sizes[dice.nextInt(sizes.length)];
        for (int i = 0; i < 70; i++) {
            step();
        }
        for (int slot = 0; slot < 6; slot++) {
            compareSlot(slot);
        }
    }

    /** What is told depends on orders and ties that only machines with many classes show. */
    private void shrinkInAllWays() {
        int[] sizes = {6, 9, 15, 30, 60};
        most = sizes[dice.nextInt(sizes.length)];
        for (int way = 0; way < 3; way++) {
            for (int i = 0; i < (way == 1 ? 12 : 3); i++) {
                drawMachine(0);
                due("smaller " + way, shop.smaller(0, way), model.smaller(0, way));
            }
        }
    }

    private int slot() {
        return dice.nextInt(40) == 0 ? dice.nextInt(9) - 2 : dice.nextInt(6);
    }

    private int state() {
        return dice.nextInt(20) == 0 ? dice.nextInt(70) - 5 : dice.nextInt(most);
    }

    private void step() {
        int a = slot(), b = slot(), c = slot(), s = state(), t = state();
        switch (dice.nextInt(23)) {
            case 0: drawMachine(dice.nextInt(6)); break;
            case 1: {
                int k = dice.nextInt(6);
                due("make " + a + " " + k + " " + s, shop.make(a, k, s), model.make(a, k, s));
                break;
            }
            case 2: {
                int l = dice.nextInt(6) - 1;
                due("edge " + a + " " + s + " " + l + " " + t, shop.edge(a, s, l, t), model.edge(a, s, l, t));
                break;
            }
            case 3: {
                boolean on = dice.nextBoolean();
                due("accept " + a + " " + s + " " + on, shop.accept(a, s, on), model.accept(a, s, on));
                break;
            }
            case 4: due("start " + a + " " + s, shop.start(a, s), model.start(a, s)); break;
            case 5: {
                int what = dice.nextInt(6) - 1;
                due("about " + a + " " + what, shop.about(a, what), model.about(a, what));
                break;
            }
            case 6: due("order " + a, shop.order(a), model.order(a)); compareSlot(a); break;
            case 7: case 8: {
                int way = dice.nextInt(20) == 0 ? dice.nextInt(5) - 1 : dice.nextInt(3);
                due("smaller " + a + " " + way, shop.smaller(a, way), model.smaller(a, way));
                compareSlot(a);
                break;
            }
            case 9: case 10: case 11: {
                int how = dice.nextInt(20) == 0 ? dice.nextInt(10) - 1 : dice.nextInt(8);
                due("join " + a + " " + how + " " + b + " " + c, shop.join(a, how, b, c), model.join(a, how, b, c));
                compareSlot(a);
                break;
            }
            case 12: {
                int[] x = dice.ints(5).toArray();
                due("feed", shop.feed(x[0], x[1], x[2], x[3], x[4]), model.feed(x));
                compareTape();
                break;
            }
            case 13: {
                int n = dice.nextInt(shop.bytes() + 3) - 1;
                due("end " + n, shop.end(n), model.end(n));
                break;
            }
            case 14: case 15: readExpression(a); break;
            case 16: {
                drawWord(dice.nextInt(40), 1 + dice.nextInt(4));
                due("takes " + a, shop.takes(a), model.takes(a));
                due("number " + a, shop.number(a), model.number(a));
                break;
            }
            case 17: due("same " + a + " " + b, shop.same(a, b), model.same(a, b)); compareTape(); break;
            case 18: due("apart " + a + " " + s + " " + t, shop.apart(a, s, t), model.apart(a, s, t)); compareTape(); break;
            case 19: {
                int n = dice.nextInt(34) - 1;
                due("words " + a + " " + n, shop.words(a, n), model.words(a, n));
                break;
            }
            case 20: {
                long i = dice.nextInt(10) == 0 ? dice.nextLong() : dice.nextInt(2000) - 1;
                due("word " + a + " " + i, shop.word(a, i), model.word(a, i));
                compareTape();
                due("number " + a, shop.number(a), model.number(a));
                due("takes " + a, shop.takes(a), model.takes(a));
                break;
            }
            default: compareMappings(a);
        }
    }

    private void due(String call, long got, long want) {
        Check.due(name + call, got, want);
    }

    private void drawMachine(int slot) {
        int k = 1 + dice.nextInt(dice.nextBoolean() ? 2 : 4), n = 1 + dice.nextInt(most);
        int near = 1 + dice.nextInt(n);
        due("make", shop.make(slot, k, n), model.make(slot, k, n));
        for (int s = 0; s < n; s++) {
            boolean on = dice.nextInt(3) == 0;
            due("accept", shop.accept(slot, s, on), model.accept(slot, s, on));
            for (int l = 0; l < k; l++) {
                int t = (s + dice.nextInt(near)) % n;
                due("edge", shop.edge(slot, s, l, t), model.edge(slot, s, l, t));
            }
        }
        int first = dice.nextInt(n);
        due("start", shop.start(slot, first), model.start(slot, first));
    }

    private void drawWord(int length, int k) {
        StringBuilder word = new StringBuilder();
        for (int i = 0; i < length; i++) {
            word.append((char) ('a' + dice.nextInt(k)));
        }
        putBoth(word.toString());
    }

    private void putBoth(String text) {
        Check.put(shop, text);
        model.tape.clear();
        for (char c : text.toCharArray()) {
            model.tape.add((int) c);
        }
    }

    private void readExpression(int slot) {
        int k = dice.nextInt(30) == 0 ? dice.nextInt(7) - 1 : 1 + dice.nextInt(4);
        String text = dice.nextInt(3) == 0 ? noise() : expression(2 + dice.nextInt(3), Math.max(1, Math.min(k, 4)));
        if (text.length() > 500) {
            text = text.substring(0, 500);
        }
        putBoth(text);
        due("read " + slot + " " + k + " " + text, shop.read(slot, k), model.read(slot, k));
        compareTape();
        compareSlot(slot);
    }

    private String noise() {
        StringBuilder text = new StringBuilder();
        int length = dice.nextInt(30);
        for (int i = 0; i < length; i++) {
            text.append(ALPHABET.charAt(dice.nextInt(ALPHABET.length())));
        }
        return text.toString();
    }

    private String expression(int depth, int k) {
        if (depth == 0) {
            return ".0abcd".charAt(dice.nextInt(2 + k)) + "";
        }
        String x = expression(depth - 1, k);
        switch (dice.nextInt(10)) {
            case 0: return x + "|" + expression(depth - 1, k);
            case 1: return "(" + x + "&" + expression(depth - 1, k) + ")";
            case 2: return "!(" + x + ")";
            case 3: return "(" + x + ")*";
            case 4: return "(" + x + ")+";
            case 5: return "(" + x + ")?";
            case 6: return "(" + x + "|)";
            default: return x + expression(depth - 1, k);
        }
    }

    private void compareSlot(int slot) {
        due("about k of " + slot, shop.about(slot, 0), model.about(slot, 0));
        due("about n of " + slot, shop.about(slot, 1), model.about(slot, 1));
        due("about start of " + slot, shop.about(slot, 2), model.about(slot, 2));
        due("about accepting of " + slot, shop.about(slot, 3), model.about(slot, 3));
        for (int s = 0; s <= model.about(slot, 1); s++) {
            for (int l = -2; l <= model.about(slot, 0); l++) {
                due("to " + slot + " " + s + " " + l, shop.to(slot, s, l), model.to(slot, s, l));
            }
        }
    }

    private void compareTape() {
        due("bytes", shop.bytes(), model.bytes());
        for (int i = -1; i <= model.bytes(); i++) {
            due("octet " + i, shop.octet(i), model.octet(i));
        }
    }

    private void compareMappings(int slot) {
        due("mappings " + slot, shop.mappings(slot), model.mappings(slot));
        for (int what = -1; what <= 5; what++) {
            due("mapping " + what, shop.mapping(what), model.mapping(what));
        }
        for (int j = 0; j < 60; j++) {
            int i = dice.nextInt(model.maps.size() + 3) - 1, s = state();
            due("maps " + i + " " + s, shop.maps(i, s), model.maps(i, s));
        }
    }
}
