import java.util.function.IntSupplier;
import java.util.function.Supplier;
import java.util.function.ToIntBiFunction;
import java.util.function.ToIntFunction;

/** Counts the answers that are not the due ones, and prints them. */
final class Check {
    private static final int LEAST = Integer.MIN_VALUE;
    private static final int GREATEST = Integer.MAX_VALUE;

    private int done = 0;
    private int wrong = 0;
    private Document document;
    private String said = "";

    /** A new object that has loaded a text. */
    static SnowGuns loaded(String text) {
        SnowGuns x = written(text);
        x.load();
        return x;
    }

    /** A new object with a text in its buffer. */
    static SnowGuns written(String text) {
        SnowGuns x = new SnowGuns();
        for (int i = 0; i < text.length(); i++) {
            x.append(text.charAt(i));
        }
        return x;
    }

    void is(String what, long got, long want) {
        done++;
        if (got != want) {
            wrong++;
            System.out.println(said + what + " answered " + got + ", due is " + want);
        }
    }

    void same(String what, String got, String want) {
        done++;
        if (!got.equals(want)) {
            wrong++;
            System.out.println(said + what + " is\n  " + got + "\ndue is\n  " + want);
        }
    }

    /** The passage of the document (of its terms, or of a promise) that the answers from here on are about. */
    void says(int promise, String passage) {
        if (document == null) {
            document = new Document();
        }
        said = (promise == 0 ? "terms" : "promise " + promise) + ", \"" + passage + "\":\n";
        is("the document has these words", document.quote(promise, passage) ? 1 : 0, 1);
    }

    /** The tests have quoted all of the document. */
    void allIsSaid() {
        said = "";
        same("what no test quotes", document == null ? "no quote" : String.join("\n  ", document.unquoted()), "");
    }

    /** The call throws just this exception; refused looks at what is behind it, too. */
    void fails(String what, SnowGuns x, Class<? extends RuntimeException> kind, IntSupplier call) {
        same(what, Traces.answer(x, o -> call.getAsInt()), kind.getSimpleName());
    }

    void wrongArgument(String what, SnowGuns x, IntSupplier call) {
        fails(what, x, IllegalArgumentException.class, call);
    }

    void wrongIndex(String what, SnowGuns x, IntSupplier call) {
        fails(what, x, IndexOutOfBoundsException.class, call);
    }

    void wrongState(String what, SnowGuns x, IntSupplier call) {
        fails(what, x, IllegalStateException.class, call);
    }

    /** The call throws just this exception, and no later call shows that it has been. */
    void refused(String what, Supplier<SnowGuns> made, Class<? extends RuntimeException> kind,
            ToIntFunction<SnowGuns> call) {
        same(what, Traces.answer(made.get(), call), kind.getSimpleName());
        leavesNoTrace(what, made, call);
    }

    /** No later call shows that this one has been. */
    void leavesNoTrace(String what, Supplier<SnowGuns> made, ToIntFunction<SnowGuns> call) {
        String traces = Traces.of(() -> {
            SnowGuns x = made.get();
            Traces.answer(x, call);
            return x;
        });
        same(what + ", what is behind it", traces, Traces.of(made));
    }

    /** The least and the most number are taken; what lies outside, near and far, is not, and changes nothing. */
    void range(String what, Supplier<SnowGuns> made, int least, int most, ToIntBiFunction<SnowGuns, Integer> call) {
        taken(what, made, least, call);
        taken(what, made, most, call);
        for (int v : new int[] {least - 1, most + 1, LEAST, GREATEST}) {
            refused(what + " with " + v, made, IllegalArgumentException.class, x -> call.applyAsInt(x, v));
        }
    }

    /** The numbers of slopes, guns or slots: 0 to count - 1 are there, what lies outside is not. */
    void numbers(String what, Supplier<SnowGuns> made, int count, ToIntBiFunction<SnowGuns, Integer> call) {
        for (int n = 0; n < count; n++) {
            taken(what, made, n, call);
        }
        noSuch(what, made, count, call);
    }

    /** What lies outside 0 to count - 1 does not exist, and nothing changes. */
    void noSuch(String what, Supplier<SnowGuns> made, int count, ToIntBiFunction<SnowGuns, Integer> call) {
        for (int n : new int[] {-1, count, LEAST, GREATEST}) {
            refused(what + " with " + n, made, IndexOutOfBoundsException.class, x -> call.applyAsInt(x, n));
        }
    }

    private void taken(String what, Supplier<SnowGuns> made, int v, ToIntBiFunction<SnowGuns, Integer> call) {
        String got = Traces.answer(made.get(), x -> call.applyAsInt(x, v));
        same(what + " with " + v + " is refused by", got.replaceAll("-?\\d+", ""), "");
    }

    /** Everything of the state and of the text that the readings show. */
    static String seen(SnowGuns x) {
        StringBuilder all = new StringBuilder("about");
        for (int what = 0; what <= 13; what++) {
            all.append(' ').append(x.about(what));
        }
        for (int s = 0; s < x.about(4); s++) {
            all.append(" | slope");
            for (int what = 0; what <= 6; what++) {
                all.append(' ').append(x.slope(s, what));
            }
        }
        for (int g = 0; g < x.about(5); g++) {
            all.append(" | gun");
            for (int what = 0; what <= 5; what++) {
                all.append(' ').append(x.gun(g, what));
            }
        }
        all.append(" | accounts");
        for (int what = 0; what <= 5; what++) {
            all.append(' ').append(x.account(what));
        }
        all.append(" | book");
        for (int j = 0; j < 21; j++) {
            all.append(' ').append(x.book(j, 0)).append('@').append(x.book(j, 1));
        }
        all.append(" | wets");
        for (int h = 0; h < x.about(6); h++) {
            all.append(' ').append(x.wet(h));
        }
        return all.append(" | text ").append(x.errorPosition()).toString();
    }

    /** Ends the test with the code that .ci/run looks at. */
    void end(String name) {
        System.out.println(name + ": " + done + " answers looked at, " + wrong + " not as due");
        if (wrong != 0 || done == 0) {
            System.exit(1);
        }
    }
}
