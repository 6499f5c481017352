/** Promises 6 to 11: about, slope, gun, account, book, wet. */
public final class ReadingTest {
    private static final int[] FAR = {-1, Integer.MIN_VALUE, Integer.MAX_VALUE};

    public static void main(String[] args) {
        Check c = new Check();
        about(c);
        colds(c);
        slope(c);
        gun(c);
        account(c);
        book(c);
        lastTwenty(c);
        wet(c);
        c.end("ReadingTest");
    }

    /** Gun 0 stands still; guns 1 and 2 warm in the first hour and make 3 and 1 units in the second. */
    private static SnowGuns afterTwoHours() {
        SnowGuns x = Check.loaded("P300100325s4510s2204g03g11g10w-9-5-2+3");
        x.allow(0, false);
        x.pass(2);
        return x;
    }

    private static void about(Check c) {
        SnowGuns x = afterTwoHours();
        int[] want = {30, 100, 3, 25, 2, 3, 4, 88, 2, 0, 2, 0, -2, 1};
        for (int what = 0; what < want.length; what++) {
            c.is("about(" + what + ")", x.about(what), want[what]);
        }
        c.wrongArgument("about(14)", x, () -> x.about(14));
        for (int what : FAR) {
            c.wrongArgument("about(" + what + ")", x, () -> x.about(what));
        }
        x.setSlope(1, 2, 2);
        x.setSlope(0, 2, 0);
        c.is("ready slopes", x.about(9), 2);
        x.pass(2);
        c.is("no gun runs after a warm hour", x.about(10), 0);
        runningGuns(c);
        c.is("the weather comes round", x.about(12), -9);
        for (int k = 0; k < 110; k++) {
            x.pass(99);
        }
        c.is("the hour goes on above 9999", x.about(8), 4 + 110 * 99);
        c.is("its temperature", x.about(12), -2);
    }

    private static void runningGuns(Check c) {
        SnowGuns x = Check.loaded("P990999000s9999g00w-9");
        x.pass(1);
        c.is("one that warms", x.about(10), 0);
        x.pass(1);
        c.is("one that runs", x.about(10), 1);
        x.save(0);
        x.addGun(0, 0);
        x.pass(2);
        x.restore(0);
        c.is("one again behind restore", x.about(10), 1);
        x.addGun(0, 0);
        x.pass(1);
        c.is("one that runs, one that warms", x.about(10), 1);
        x.pass(1);
        c.is("two that run", x.about(10), 2);
        x.undo();
        x.undo();
        x.undo();
        c.is("one of the one that is left", x.about(10), 1);
    }

    private static void colds(Check c) {
        int[] colds = {3, 3, 2, 2, 2, 1, 1, 1, 0, 0, 0, 0, 0, 0, 0, 0, 0, 0, 0};
        SnowGuns x = new SnowGuns();
        for (int v = -9; v <= 9; v++) {
            x.setWet(0, v);
            c.is("the temperature " + v, x.about(12), v);
            c.is("the cold of " + v, x.about(13), colds[v + 9]);
        }
    }

    private static void slope(Check c) {
        SnowGuns x = afterTwoHours();
        x.pass(1);
        int[] want = {2, 2, 4, 5, 2, 0, 2};
        for (int what = 0; what < want.length; what++) {
            c.is("slope(1, " + what + ")", x.slope(1, what), want[what]);
        }
        c.is("the guns of slope 0", x.slope(0, 6), 1);
        x.setSlope(1, 2, 3);
        c.is("not ready below its target", x.slope(1, 5), 0);
        x.setSlope(1, 2, 2);
        c.is("ready at its target", x.slope(1, 5), 1);
        x.setSlope(1, 2, 1);
        c.is("ready above its target", x.slope(1, 5), 1);
        for (int s : new int[] {-1, 2, 6, Integer.MIN_VALUE, Integer.MAX_VALUE}) {
            c.wrongIndex("slope(" + s + ", 0)", x, () -> x.slope(s, 0));
            c.wrongIndex("slope(" + s + ", 7)", x, () -> x.slope(s, 7));
        }
        c.wrongArgument("slope(0, 7)", x, () -> x.slope(0, 7));
        for (int what : FAR) {
            c.wrongArgument("slope(1, " + what + ")", x, () -> x.slope(1, what));
        }
    }

    private static void gun(Check c) {
        SnowGuns x = afterTwoHours();
        x.pass(1);
        int[][] want = {{0, 3, 0, 0, 0, 0}, {1, 1, 1, 2, 4, 2}, {1, 0, 1, 2, 1, 2}};
        for (int g = 0; g < 3; g++) {
            for (int what = 0; what < 6; what++) {
                c.is("gun(" + g + ", " + what + ")", x.gun(g, what), want[g][what]);
            }
        }
        x.allow(0, true);
        x.pass(2);
        c.is("a gun that warms", x.gun(0, 3), 1);
        for (int g : new int[] {-1, 3, 8, Integer.MIN_VALUE, Integer.MAX_VALUE}) {
            c.wrongIndex("gun(" + g + ", 0)", x, () -> x.gun(g, 0));
            c.wrongIndex("gun(" + g + ", 6)", x, () -> x.gun(g, 6));
        }
        c.wrongArgument("gun(0, 6)", x, () -> x.gun(0, 6));
        for (int what : FAR) {
            c.wrongArgument("gun(2, " + what + ")", x, () -> x.gun(2, what));
        }
    }

    private static void account(Check c) {
        SnowGuns x = afterTwoHours();
        x.pass(1);
        accounts(c, x, 106, 13, 0, 0, 5, 0);
        x.pass(1);
        accounts(c, x, 109, 13, 3, 5, 0, 0);
        x.set(1, 80);
        accounts(c, x, 109, 13, 3, 5, 0, 13);
        x.set(1, 100);
        x.fill(5);
        accounts(c, x, 114, 13, 3, 5, 0, 13);
        c.wrongArgument("account(6)", x, () -> x.account(6));
        for (int what : FAR) {
            c.wrongArgument("account(" + what + ")", x, () -> x.account(what));
        }
    }

    private static void accounts(Check c, SnowGuns x, int... want) {
        for (int what = 0; what < want.length; what++) {
            c.is("account(" + what + ") in the hour " + x.about(8), x.account(what), want[what]);
        }
    }

    private static void book(Check c) {
        SnowGuns x = Check.loaded("P990999000s1000s1001s9999s1003g10g30w-9");
        x.pass(1);
        c.is("no entry of a slope that was ready at first", x.about(11), 0);
        x.pass(1);
        c.is("two entries", x.about(11), 2);
        entry(c, x, 0, 3, 2);
        entry(c, x, 1, 1, 2);
        entry(c, x, 2, SnowGuns.NONE, SnowGuns.NONE);
        entry(c, x, Integer.MAX_VALUE, SnowGuns.NONE, SnowGuns.NONE);
        for (int j : new int[] {-1, Integer.MIN_VALUE}) {
            c.wrongArgument("book(" + j + ", 0)", x, () -> x.book(j, 0));
        }
        for (int what : new int[] {-1, 2, Integer.MIN_VALUE, Integer.MAX_VALUE}) {
            c.wrongArgument("book(0, " + what + ")", x, () -> x.book(0, what));
            c.wrongArgument("book(9, " + what + ")", x, () -> x.book(9, what));
        }
    }

    private static void entry(Check c, SnowGuns x, int j, int slope, int hour) {
        c.is("the slope of entry " + j, x.book(j, 0), slope);
        c.is("the hour of entry " + j, x.book(j, 1), hour);
    }

    /** The slope is ready after each second hour of three, and its snow melts in the third. */
    private static void lastTwenty(Check c) {
        SnowGuns x = Check.loaded("P990999000s1001g00w-9-9+9");
        x.pass(59);
        c.is("twenty entries", x.about(11), 20);
        entry(c, x, 0, 0, 59);
        entry(c, x, 19, 0, 2);
        x.pass(3);
        c.is("still twenty", x.about(11), 20);
        entry(c, x, 0, 0, 62);
        entry(c, x, 1, 0, 59);
        entry(c, x, 19, 0, 5);
        entry(c, x, 20, SnowGuns.NONE, SnowGuns.NONE);
        String before = Check.seen(x);
        x.pass(50);
        entry(c, x, 19, 0, 53);
        x.undo();
        c.same("the book after undo", Check.seen(x), before);
        lastTwentyOfThree(c);
    }

    /** The first slope is ready after the hours 2, 6, 10, .., the others an hour later. */
    private static void lastTwentyOfThree(Check c) {
        SnowGuns x = Check.loaded("P990999000s1003s1006s1005g00g10g20w-9-9-9+9");
        x.pass(27);
        c.is("twenty of 21 entries", x.about(11), 20);
        entry(c, x, 0, 2, 27);
        entry(c, x, 1, 1, 27);
        entry(c, x, 2, 0, 26);
        entry(c, x, 17, 0, 6);
        entry(c, x, 18, 2, 3);
        entry(c, x, 19, 1, 3);
        String before = Check.seen(x);
        x.bring(1, 0);
        x.removeSlope(1);
        c.is("thirteen entries stay", x.about(11), 13);
        entry(c, x, 0, 1, 27);
        entry(c, x, 1, 0, 26);
        entry(c, x, 2, 1, 23);
        entry(c, x, 11, 0, 6);
        entry(c, x, 12, 1, 3);
        entry(c, x, 13, SnowGuns.NONE, SnowGuns.NONE);
        x.pass(9);
        x.undo();
        x.undo();
        x.undo();
        c.same("the book of three after undo", Check.seen(x), before);
    }

    private static void wet(Check c) {
        SnowGuns x = afterTwoHours();
        int[] row = {-9, -5, -2, 3};
        for (int h = 0; h < 12; h++) {
            c.is("wet(" + h + ")", x.wet(h), row[h % 4]);
        }
        c.is("wet(9998)", x.wet(9998), -2);
        c.is("wet(9999)", x.wet(9999), 3);
        c.wrongArgument("wet(10000)", x, () -> x.wet(10000));
        for (int hour : FAR) {
            c.wrongArgument("wet(" + hour + ")", x, () -> x.wet(hour));
        }
    }
}
