import java.util.List;
import java.util.function.Supplier;
import java.util.function.ToIntFunction;

/**
 * All that later calls can show of an object: its readings, its remembered states, its save slots and its text.
 * Each look takes an object of its own, since it uses the object up, and the document promises 512 calls.
 */
final class Traces {
    private static final List<ToIntFunction<SnowGuns>> LOOKS = List.of(
        x -> 0, SnowGuns::undo, Traces::undoAll, x -> x.restore(0), x -> x.restore(1), SnowGuns::clearText,
        SnowGuns::load);

    private Traces() {
    }

    static String of(Supplier<SnowGuns> made) {
        StringBuilder all = new StringBuilder();
        for (ToIntFunction<SnowGuns> look : LOOKS) {
            SnowGuns x = made.get();
            all.append(answer(x, look)).append(": ").append(Check.seen(x)).append('\n');
        }
        return all.toString();
    }

    /** The answer as a text, or the name of the exception. */
    static String answer(SnowGuns x, ToIntFunction<SnowGuns> call) {
        try {
            return Integer.toString(call.applyAsInt(x));
        } catch (RuntimeException e) {
            return e.getClass().getSimpleName();
        }
    }

    /** How many states are remembered; 14 are allowed, so that 20 are more than enough to look for. */
    private static int undoAll(SnowGuns x) {
        int undone = 0;
        while (undone < 20 && !answer(x, SnowGuns::undo).endsWith("Exception")) {
            undone++;
        }
        return undone;
    }
}
