import java.util.List;
import java.util.function.Supplier;
import java.util.function.ToLongFunction;

/** Counts answers that are due and those that are not, and types texts. */
final class Checks {
    private final String name;
    private String sentence = "";
    private int passed = 0;
    private int failed = 0;

    Checks(String name) {
        this.name = name;
    }

    /** The document's sentence that the checks from here on are about. */
    void sentence(String words) {
        sentence = words + " | ";
    }

    void due(String call, long got, long want) {
        if (got == want) {
            passed++;
            return;
        }
        failed++;
        if (failed <= 50) System.out.println(name + ": " + sentence + call + " answered " + got + ", due is " + want);
    }

    void holds(String what, boolean so) {
        due(what, so ? 1 : 0, 1);
    }

    /** Both lists are alike; names the first line that is not. */
    void same(String what, List<String> got, List<String> want) {
        due(what + ": lines", got.size(), want.size());
        for (int i = 0; i < got.size() && i < want.size(); i++) {
            if (got.get(i).equals(want.get(i))) continue;
            holds(what + ": " + got.get(i) + ", due is " + want.get(i), false);
            return;
        }
    }

    /** The call answers so, and nothing that the object tells is another behind it than without it. */
    void changesNothing(String call, Supplier<TradeWheel> scene, ToLongFunction<TradeWheel> made, long want) {
        TradeWheel x = scene.get();
        due(call, made.applyAsLong(x), want);
        same(call + " changed something", Whole.of(x), Whole.of(scene.get()));
    }

    boolean anyFailed() {
        return failed > 0;
    }

    void close() {
        System.out.println(name + ": " + passed + " passed, " + failed + " failed");
        if (failed > 0) System.exit(1);
    }

    /** Types a text, eight signs a call: what the last call answered. */
    static int say(TradeWheel x, String text) {
        int last = 0;
        for (int from = 0; from < text.length(); from += 8) {
            String part = text.substring(from, Math.min(from + 8, text.length()));
            last = x.type(asNumber(part), part.length());
        }
        return last;
    }

    static long asNumber(String part) {
        long v = 0;
        for (int i = 0; i < part.length(); i++) v = v << 8 | part.charAt(i) & 255;
        return v;
    }

    /** A new object that has read a text. */
    static TradeWheel of(String text) {
        TradeWheel x = new TradeWheel();
        say(x, text);
        int items = x.read();
        if (items < 0) throw new IllegalArgumentException("fault " + items + " in " + text);
        return x;
    }
}
