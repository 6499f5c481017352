/** Promises 25 to 29: ahead, readyAfter, bestPlace, missing, coldest. */
public final class ForecastTest {
    private static final int[] FAR = {-1, Integer.MIN_VALUE, Integer.MAX_VALUE};

    public static void main(String[] args) {
        Check c = new Check();
        aheadIsPass(c);
        aheadRange(c);
        readyAfter(c);
        readyAfterLongest(c);
        bestPlace(c);
        ninthGun(c);
        bestPlaceRange(c);
        missing(c);
        missingMost(c);
        missingForTheMostSlopes(c);
        missingRange(c);
        coldest(c);
        coldestFromTheHour(c);
        coldestRange(c);
        c.end("ForecastTest");
    }

    private static void aheadIsPass(Check c) {
        for (int m = 0; m <= 99; m++) {
            SnowGuns x = Check.loaded("P300150212s4603s2505s9999g03g11g10g23w-9-5-2+3-8-8");
            x.pass(5);
            String before = Check.seen(x);
            int[] told = new int[5];
            for (int what = 0; what < 5; what++) {
                told[what] = x.ahead(m, what);
            }
            c.same("ahead changes nothing", Check.seen(x), before);
            int melted = x.account(3);
            int made = m == 0 ? 0 : x.pass(m);
            c.is("snow after " + m, told[0], x.account(4));
            c.is("pond after " + m, told[1], x.about(7));
            c.is("ready after " + m, told[2], x.about(9));
            c.is("made in " + m, told[3], made);
            c.is("melted in " + m, told[4], x.account(3) - melted);
            if (m > 0) {
                c.is("ahead is no action", x.undo(), 1);
            }
        }
    }

    private static void aheadRange(Check c) {
        SnowGuns x = new SnowGuns();
        c.is("snow after 99", x.ahead(99, 0), 40);
        c.is("snow that is made in 99", x.ahead(99, 3), 40);
        c.is("ready after 40", x.ahead(40, 2), 0);
        c.is("ready after 41", x.ahead(41, 2), 1);
        c.is("the pond now", x.ahead(0, 1), 500);
        for (int m : new int[] {-1, 100, Integer.MIN_VALUE, Integer.MAX_VALUE}) {
            c.wrongArgument("ahead(" + m + ", 0)", x, () -> x.ahead(m, 0));
        }
        c.wrongArgument("ahead(0, 5)", x, () -> x.ahead(0, 5));
        for (int what : FAR) {
            c.wrongArgument("ahead(0, " + what + ")", x, () -> x.ahead(0, what));
        }
    }

    private static void readyAfter(Check c) {
        SnowGuns x = Check.loaded("P990999000s1003s1006s1007s9000s9001g00g10g20w-9-9-9+9");
        String before = Check.seen(x);
        int[] want = {2, 3, SnowGuns.NONE, 0, SnowGuns.NONE};
        for (int s = 0; s < want.length; s++) {
            c.is("readyAfter(" + s + ")", x.readyAfter(s), want[s]);
        }
        c.same("nothing changes", Check.seen(x), before);
        c.wrongState("no action", x, x::undo);
        c.is("a new object", new SnowGuns().readyAfter(0), 41);
        for (int s : new int[] {-1, 5, 6, Integer.MIN_VALUE, Integer.MAX_VALUE}) {
            c.wrongIndex("readyAfter(" + s + ")", x, () -> x.readyAfter(s));
        }
    }

    /** One unit an hour after the first, for 396 units. */
    private static void readyAfterLongest(Check c) {
        SnowGuns x = Check.loaded("P990999000s4099g00w-4");
        x.pass(96);
        c.is("301 hours", x.readyAfter(0), SnowGuns.NONE);
        x.pass(1);
        c.is("300 hours", x.readyAfter(0), 300);
        x.pass(1);
        c.is("299 hours", x.readyAfter(0), 299);
    }

    private static void bestPlace(Check c) {
        SnowGuns x = Check.loaded("P990999000s1599s1003s1003w-9");
        String before = Check.seen(x);
        c.is("the ready slope counts, not the rank", x.bestPlace(0, 2), 1);
        c.same("nothing changes", Check.seen(x), before);
        c.wrongState("no action", x, x::undo);
        c.is("nothing ready in one hour", x.bestPlace(0, 1), 0);
        c.is("also by a larger nozzle", x.bestPlace(3, 2), 1);
        x.setSlope(1, 2, 12);
        x.setSlope(2, 2, 12);
        c.is("not by a smaller one", x.bestPlace(0, 2), 0);
        c.is("but by the largest", x.bestPlace(3, 2), 1);
        // a ready slope takes no snow, so that the other one gets more
        SnowGuns y = Check.loaded("P990999000s1000s1599s1599w-9");
        c.is("the most snow", y.bestPlace(1, 9), 1);
        // a gun at slope 1 would make more snow, but none ready
        SnowGuns z = Check.loaded("P990999000s9599s1101w-9");
        c.is("ready goes before snow", z.bestPlace(3, 9), 1);
        c.is("the warm helps nowhere", Check.loaded("P990999000s9599s1101w+0").bestPlace(3, 9), 0);
        SnowGuns none = Check.loaded("P990999000s9599w-9");
        none.removeSlope(0);
        c.is("without slopes", none.bestPlace(0, 1), SnowGuns.NONE);
    }

    /** The eight guns leave 3 units of the pump in an hour, just for a ninth one. */
    private static void ninthGun(Check c) {
        SnowGuns x = Check.loaded("P270999000s9999s9501s1001" + "g00".repeat(8) + "w-9");
        c.is("a ninth one", x.bestPlace(0, 2), 2);
        c.is("still eight", x.about(5), 8);
        x.set(0, 26);
        c.is("no water for it but at the first slope", x.bestPlace(0, 2), 0);
        c.is("no place is better in an hour", x.bestPlace(0, 1), 0);
        SnowGuns y = Check.loaded("P990999000s9999g00w-9");
        c.is("one place", y.bestPlace(3, 20), 0);
        c.is("what the gun that was tried made is not counted", y.ahead(3, 3), 6);
    }

    private static void bestPlaceRange(Check c) {
        SnowGuns x = new SnowGuns();
        c.is("99 hours", x.bestPlace(3, 99), 0);
        for (int nozzle : new int[] {-1, 4, Integer.MIN_VALUE, Integer.MAX_VALUE}) {
            c.wrongArgument("bestPlace(" + nozzle + ", 1)", x, () -> x.bestPlace(nozzle, 1));
        }
        for (int m : new int[] {-1, 0, 100, Integer.MIN_VALUE, Integer.MAX_VALUE}) {
            c.wrongArgument("bestPlace(0, " + m + ")", x, () -> x.bestPlace(0, m));
        }
        x.removeSlope(x.addSlope(1, 1, 1));
        c.wrongArgument("both wrong", x, () -> x.bestPlace(4, 0));
    }

    /** A gun that uses 9 units an hour, and makes 9 but in the first one; the pond is empty. */
    private static SnowGuns empty(int target) {
        SnowGuns x = Check.loaded("P990000000s1009g02w-9");
        x.set(1, 9999);
        x.setSlope(0, 2, target);
        return x;
    }

    private static void missing(Check c) {
        SnowGuns x = empty(9);
        String before = Check.seen(x);
        c.is("18 units for two hours", x.missing(2), 20);
        c.is("no water helps in an hour", x.missing(1), 0);
        c.is("as much in more hours", x.missing(99), 20);
        c.same("nothing changes", Check.seen(x), before);
        c.is("one action, that of empty", x.undo(), 1);
        x = empty(0);
        c.is("ready at once", x.missing(9), 0);
        x = empty(10);
        c.is("27 units for three hours", x.missing(3), 30);
        x.fill(7);
        c.is("20 of them", x.missing(3), 20);
        x.fill(1);
        c.is("19 of them", x.missing(3), 20);
        x.fill(9);
        c.is("10 of them", x.missing(3), 10);
        x.fill(10);
        c.is("none of them", x.missing(3), 0);
        x = empty(9);
        x.set(1, 18);
        c.is("just the capacity", x.missing(2), 20);
        x.set(1, 17);
        c.is("a capacity that is too small", x.missing(2), 0);
        x.set(1, 20);
        c.is("a capacity of 20", x.missing(2), 20);
        x.set(1, 21);
        c.is("a capacity of 21", x.missing(2), 20);
        SnowGuns y = Check.loaded("P990000000s1018g00w-9");
        y.set(1, 21);
        c.is("21 units into a capacity of 21", y.missing(7), 30);
    }

    /** Nozzle 3 uses 12 an hour, and makes 10: 984 units give 810 of snow, but 820 need 996. */
    private static void missingMost(Check c) {
        SnowGuns x = Check.loaded("P990000010s9090g03w-9");
        x.set(1, 9999);
        c.is("984 units", x.missing(82), 990);
        c.is("in 99 hours", x.missing(99), 990);
        c.is("an hour less", x.missing(81), 0);
        x.setSlope(0, 2, 91);
        c.is("996 units", x.missing(99), 0);
    }

    /** Slope 0 needs 6 units, slope 1 needs 12 more, slope 2 more than any number gives. */
    private static void missingForTheMostSlopes(Check c) {
        SnowGuns x = Check.loaded("P990000000s1903s1506s9199g00g11g23w-9");
        x.set(1, 9999);
        c.is("two slopes", x.missing(2), 20);
        x.setSlope(1, 2, 99);
        c.is("one slope", x.missing(2), 20);
        x.allow(1, false);
        c.is("one slope without the gun that came between", x.missing(2), 10);
        x.setSlope(2, 2, 0);
        c.is("one more, which is ready at once", x.missing(2), 10);
        x.removeSlope(x.addSlope(9, 0, 0));
        x.setSlope(0, 2, 0);
        c.is("two that are ready at once", x.missing(2), 0);
    }

    private static void missingRange(Check c) {
        SnowGuns x = new SnowGuns();
        c.is("a full pond", x.missing(41), 0);
        for (int m : new int[] {-1, 0, 100, Integer.MIN_VALUE, Integer.MAX_VALUE}) {
            c.wrongArgument("missing(" + m + ")", x, () -> x.missing(m));
        }
    }

    private static void coldest(Check c) {
        SnowGuns x = Check.loaded("P200500210s4510w-1-4-2-5-7-8-9+9");
        String before = Check.seen(x);
        int[] want = {5, 5, 4, 3, 2, 1, 0, 0};
        for (int n = 1; n <= 8; n++) {
            c.is("coldest(" + n + ")", x.coldest(n), want[n - 1]);
        }
        c.is("coldest(9)", x.coldest(9), 5);
        c.is("coldest(16)", x.coldest(16), 0);
        c.is("coldest(24)", x.coldest(24), 0);
        c.same("nothing changes", Check.seen(x), before);
        c.wrongState("no action", x, x::undo);
        SnowGuns y = new SnowGuns();
        for (int n = 1; n <= 24; n++) {
            c.is("all alike, coldest(" + n + ")", y.coldest(n), 0);
        }
        // the colds, not the temperatures: three hours of -2 against two of -4
        c.is("the colds add up", Check.loaded("P200500210s4510w-4-4+0-2-2-2+0+0").coldest(3), 3);
    }

    private static void coldestFromTheHour(Check c) {
        SnowGuns x = Check.loaded("P200500210s4510w" + "+0".repeat(23) + "-9");
        c.is("the last hour", x.coldest(1), 23);
        c.is("the last two", x.coldest(2), 22);
        c.is("all", x.coldest(24), 0);
        x.pass(1);
        c.is("an hour later", x.coldest(1), 22);
        x.pass(22);
        c.is("now", x.coldest(1), 0);
        x.pass(1);
        c.is("the next day", x.coldest(1), 23);
        x.setWet(0, -2);
        c.is("over the end of the row", x.coldest(2), 23);
    }

    private static void coldestRange(Check c) {
        SnowGuns x = new SnowGuns();
        for (int n : new int[] {-1, 0, 25, Integer.MIN_VALUE, Integer.MAX_VALUE}) {
            c.wrongArgument("coldest(" + n + ")", x, () -> x.coldest(n));
        }
    }
}
