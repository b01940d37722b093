/** What the tests have in common: telling what is not as due, and putting texts on a tape. */
final class Check {
    private static int wrong = 0;
    private static int asked = 0;
    private static String label = "";

    private Check() {
    }

    /** What stands before each wrong answer from now on. */
    static void label(String text) {
        label = text;
    }

    static void due(String call, long got, long want) {
        asked++;
        if (got != want) {
            wrong++;
            System.out.println(label + call + " answered " + got + ", due is " + want);
        }
    }

    static void due(String call, String got, String want) {
        asked++;
        if (!got.equals(want)) {
            wrong++;
            System.out.println(label + call + " gave \"" + got + "\", due is \"" + want + "\"");
        }
    }

    /** Puts a text on the tape, in place of what is there. */
    static void put(StateShop shop, String text) {
        shop.end(0);
        for (int at = 0; at < text.length(); at += 20) {
            shop.feed(four(text, at), four(text, at + 4), four(text, at + 8), four(text, at + 12), four(text, at + 16));
        }
        shop.end(text.length());
    }

    static int four(String text, int at) {
        int number = 0;
        for (int i = at; i < at + 4; i++) {
            number = number << 8 | (i < text.length() ? text.charAt(i) & 255 : 0);
        }
        return number;
    }

    static String tape(StateShop shop) {
        StringBuilder text = new StringBuilder();
        for (int i = 0; i < shop.bytes(); i++) {
            text.append((char) shop.octet(i));
        }
        return text.toString();
    }

    static int read(StateShop shop, int slot, int k, String expression) {
        put(shop, expression);
        return shop.read(slot, k);
    }

    static int takes(StateShop shop, int slot, String word) {
        put(shop, word);
        return shop.takes(slot);
    }

    /** A machine as a text: its start, then for each state whether it is accepting and where it goes. */
    static String show(StateShop shop, int slot) {
        StringBuilder text = new StringBuilder();
        text.append(shop.about(slot, 0)).append(' ').append(shop.about(slot, 2));
        for (int s = 0; s < shop.about(slot, 1); s++) {
            text.append(shop.to(slot, s, StateShop.NONE) == 1 ? " +" : " -");
            for (int l = 0; l < shop.about(slot, 0); l++) {
                text.append(l == 0 ? "" : ",").append(shop.to(slot, s, l));
            }
        }
        return text.toString();
    }

    /** Makes a machine from what show gives. */
    static void build(StateShop shop, int slot, String shown) {
        String[] parts = shown.split(" ");
        due("make", shop.make(slot, Integer.parseInt(parts[0]), parts.length - 2), 1);
        due("start", shop.start(slot, Integer.parseInt(parts[1])), 0);
        for (int s = 0; s < parts.length - 2; s++) {
            shop.accept(slot, s, parts[s + 2].charAt(0) == '+');
            String[] targets = parts[s + 2].substring(1).split(",");
            for (int l = 0; l < targets.length; l++) {
                shop.edge(slot, s, l, Integer.parseInt(targets[l]));
            }
        }
    }

    /** One letter, n states, each to the next, the last to the first, which is START and accepting: as show gives it. */
    static String circle(int n) {
        StringBuilder text = new StringBuilder("1 0");
        for (int s = 0; s < n; s++) {
            text.append(s == 0 ? " +" : " -").append((s + 1) % n);
        }
        return text.toString();
    }

    static void finish() {
        System.out.println(wrong == 0 ? asked + " answers are as due" : wrong + " of " + asked + " answers are not as due");
        if (wrong != 0) {
            System.exit(1);
        }
    }
}
