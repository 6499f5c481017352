import java.util.function.IntSupplier;

/** Counts the answers that are not the due ones, and prints them. */
final class Check {
    private int done = 0;
    private int wrong = 0;

    /** A new object that has loaded a text. */
    static SnowGuns loaded(String text) {
        SnowGuns x = written(text);
        x.load();
        return x;
    }

    /** A new object with a text in its buffer. */
    static SnowGuns written(String text) {
        SnowGuns x = new SnowGuns();
        for (int i = 0; i < text.length(); i++) {
            x.append(text.charAt(i));
        }
        return x;
    }

    void is(String what, long got, long want) {
        done++;
        if (got != want) {
            wrong++;
            System.out.println(what + " answered " + got + ", due is " + want);
        }
    }

    void same(String what, String got, String want) {
        done++;
        if (!got.equals(want)) {
            wrong++;
            System.out.println(what + " is\n  " + got + "\ndue is\n  " + want);
        }
    }

    /** The call throws just this exception, and changes nothing that can be seen. */
    void fails(String what, SnowGuns x, Class<? extends RuntimeException> kind, IntSupplier call) {
        String before = seen(x);
        String got;
        try {
            got = Integer.toString(call.getAsInt());
        } catch (RuntimeException e) {
            got = e.getClass().getSimpleName();
        }
        same(what, got, kind.getSimpleName());
        same(what + ", the state after it", seen(x), before);
    }

    void wrongArgument(String what, SnowGuns x, IntSupplier call) {
        fails(what, x, IllegalArgumentException.class, call);
    }

    void wrongIndex(String what, SnowGuns x, IntSupplier call) {
        fails(what, x, IndexOutOfBoundsException.class, call);
    }

    void wrongState(String what, SnowGuns x, IntSupplier call) {
        fails(what, x, IllegalStateException.class, call);
    }

    /** Everything of the state and of the text that the readings show. */
    static String seen(SnowGuns x) {
        StringBuilder all = new StringBuilder("about");
        for (int what = 0; what <= 13; what++) {
            all.append(' ').append(x.about(what));
        }
        for (int s = 0; s < x.about(4); s++) {
            all.append(" | slope");
            for (int what = 0; what <= 6; what++) {
                all.append(' ').append(x.slope(s, what));
            }
        }
        for (int g = 0; g < x.about(5); g++) {
            all.append(" | gun");
            for (int what = 0; what <= 5; what++) {
                all.append(' ').append(x.gun(g, what));
            }
        }
        all.append(" | accounts");
        for (int what = 0; what <= 5; what++) {
            all.append(' ').append(x.account(what));
        }
        all.append(" | book");
        for (int j = 0; j < 21; j++) {
            all.append(' ').append(x.book(j, 0)).append('@').append(x.book(j, 1));
        }
        all.append(" | wets");
        for (int h = 0; h < x.about(6); h++) {
            all.append(' ').append(x.wet(h));
        }
        return all.append(" | text ").append(x.errorPosition()).toString();
    }

    /** Ends the test with the code that .ci/run looks at. */
    void end(String name) {
        System.out.println(name + ": " + done + " answers looked at, " + wrong + " not as due");
        if (wrong != 0 || done == 0) {
            System.exit(1);
        }
    }
}
