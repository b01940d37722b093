import java.nio.file.Files;
import java.nio.file.Path;
import java.util.List;

/** The example in README.md: each call stands there with the answer that it gives. */
public final class ReadmeTest {
    private static List<String> lines;

    public static void main(String[] args) throws Exception {
        lines = Files.readAllLines(Path.of("README.md"));
        StateShop shop = new StateShop();
        says("shop.make(0, 2, 2);", shop.make(0, 2, 2));
        says("shop.edge(0, 0, 0, 1);", shop.edge(0, 0, 0, 1));
        says("shop.accept(0, 1, true);", shop.accept(0, 1, true));
        says("shop.feed(0x28616229, 0x2A000000, 0, 0, 0);", shop.feed(0x28616229, 0x2A000000, 0, 0, 0));
        says("shop.end(5);", shop.end(5));
        says("shop.read(1, 2);", shop.read(1, 2));
        says("shop.join(2, 4, 0, 1);", shop.join(2, 4, 0, 1));
        says("shop.word(2, 0);", shop.word(2, 0));
        says("shop.octet(0);", shop.octet(0));
        says("shop.same(0, 2);", shop.same(0, 2));
        says("shop.mappings(1);", shop.mappings(1));
        long calls = lines.stream().filter(line -> line.startsWith("shop.")).count();
        Check.due("calls in the example", calls, 11);
        Check.finish();
    }

    private static void says(String call, int answer) {
        String told = "";
        for (String line : lines) {
            if (line.startsWith(call)) {
                told = line.replaceFirst(".*// (\\d+): .*", "$1");
            }
        }
        Check.due(call, String.valueOf(answer), told);
    }
}
