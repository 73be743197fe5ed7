import java.util.ArrayList;
import java.util.List;
import java.util.function.Supplier;
import java.util.function.ToIntFunction;

/** What the tests of edges share: each check stands under the sentence of the document that it holds to. */
final class Sentences {
    static final int BAD = -1, NO = -2, FULL = -3, NONE = -4;
    static final int[] FAR = {Integer.MIN_VALUE, Integer.MIN_VALUE + 1, -1000, -5, 1000, Integer.MAX_VALUE - 1, Integer.MAX_VALUE};

    private String sentence = "";
    private int sentences = 0;
    private int checks = 0;
    private int wrong = 0;

    /** The sentence that the checks from here on hold to. */
    void says(String words) {
        sentence = words;
        sentences++;
    }

    void due(String call, int got, int want) {
        checks++;
        if (got != want) {
            wrong++;
            System.out.println("'" + sentence + "': " + call + " answered " + got + ", due is " + want);
        }
    }

    /** The same call with one number after the other, each with the answer that is due. */
    void row(String call, ToIntFunction<Integer> ask, int first, int... want) {
        for (int i = 0; i < want.length; i++) {
            due(call + " of " + (first + i), ask.applyAsInt(first + i), want[i]);
        }
    }

    /** The call is refused, and an object that has refused it goes on like one that was never asked. */
    void refused(String call, int want, Supplier<BirdBridge> make, ToIntFunction<BirdBridge> ask) {
        BirdBridge asked = make.get();
        due(call, ask.applyAsInt(asked), want);
        unchanged(call, asked, make.get());
    }

    /** The call answers so and changes nothing. */
    void looks(String call, int want, Supplier<BirdBridge> make, ToIntFunction<BirdBridge> ask) {
        refused(call, want, make, ask);
    }

    private void unchanged(String call, BirdBridge asked, BirdBridge spared) {
        checks++;
        List<Integer> is = trace(asked);
        List<Integer> was = trace(spared);
        if (!is.equals(was)) {
            wrong++;
            System.out.println("'" + sentence + "': " + call + " changed something: " + is + " instead of " + was);
        }
    }

    /** All that can be seen of an object: as it is, a STEP on, and as it was when UNDONE and BACK. */
    private static List<Integer> trace(BirdBridge x) {
        List<Integer> seen = new ArrayList<>();
        for (int what = 0; what <= 10; what++) {
            seen.add(x.count(what));
        }
        seen.add(x.fault());
        seen.add(x.stood(1));
        seen.add(x.stood(2));
        look(x, seen);
        if (x.count(8) < 8) {
            seen.add(x.step());
            look(x, seen);
            x.undo();
        }
        for (int left = x.undo(); left >= 0; left = x.undo()) {
            seen.add(left);
            look(x, seen);
        }
        for (int left = x.back(); left >= 0; left = x.back()) {
            seen.add(left);
            look(x, seen);
        }
        return seen;
    }

    private static void look(BirdBridge x, List<Integer> seen) {
        seen.add(x.count(4));
        seen.add(x.count(5));
        seen.add(x.count(6));
        for (int b = 0; b < x.count(0); b++) {
            seen.add(x.bird(b, 4));
        }
        for (int k = 0; k < x.count(1); k++) {
            seen.add(x.span(k, 0));
            seen.add(x.span(k, 3));
        }
    }

    /** A new object with this TEXT. */
    static BirdBridge told(String text) {
        BirdBridge x = new BirdBridge();
        tell(x, text);
        return x;
    }

    static void tell(BirdBridge x, String text) {
        x.wipe();
        for (int i = 0; i < text.length(); i++) {
            needed("write of " + text, x.write(text.charAt(i)), i + 1);
        }
    }

    /** A new object with this river LAID and these BIRDS in THE BRIDGE. */
    static BirdBridge laid(String text, int... joining) {
        BirdBridge x = told(text);
        needed("lay of " + text, x.lay(), x.count(0));
        for (int i = 0; i < joining.length; i++) {
            needed("join of " + joining[i] + " in " + text, x.join(joining[i]), i + 1);
        }
        return x;
    }

    /** So many STEPS on; the last one may be the one that BREAKS. */
    static BirdBridge walked(BirdBridge x, int steps) {
        for (int i = 0; i < steps; i++) {
            int where = x.step();
            if (where < 0 && (where != NONE || i < steps - 1)) {
                throw new IllegalStateException("step " + i + " answered " + where);
            }
        }
        return x;
    }

    /** A maker of such objects, for calls that want a new one each. */
    static Supplier<BirdBridge> night(String text, int... joining) {
        return () -> laid(text, joining);
    }

    static Supplier<BirdBridge> walk(int steps, String text, int... joining) {
        return () -> walked(laid(text, joining), steps);
    }

    private static void needed(String call, int got, int want) {
        if (got != want) {
            throw new IllegalStateException(call + " answered " + got + ", needed is " + want);
        }
    }

    static String many(String item, int times) {
        return item.repeat(times);
    }

    void end() {
        System.out.println(sentences + " sentences, " + checks + " checks: "
            + (wrong == 0 ? "all hold" : wrong + " do not hold"));
        if (wrong != 0) {
            System.exit(1);
        }
    }
}
