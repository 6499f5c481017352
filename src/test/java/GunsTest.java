/** Promises 23 and 24: whyNot, order. */
public final class GunsTest {
    public static void main(String[] args) {
        Check c = new Check();
        eachReason(c);
        firstReason(c);
        whatComesBefore(c);
        wrongGun(c);
        orderOfGuns(c);
        orderOfDepths(c);
        wrongPlace(c);
        c.end("GunsTest");
    }

    private static void reasons(Check c, String what, SnowGuns x, int... want) {
        String before = Check.seen(x);
        for (int g = 0; g < want.length; g++) {
            c.is(what + ": whyNot(" + g + ")", x.whyNot(g), want[g]);
        }
        c.same(what + ": nothing changes", Check.seen(x), before);
        c.wrongState(what + ": no action", x, x::undo);
    }

    private static void eachReason(Check c) {
        reasons(c, "a new object", new SnowGuns(), 0);
        SnowGuns x = Check.loaded("P200500210s4510g03w-1");
        reasons(c, "no cold", x, 2);
        reasons(c, "ready", Check.loaded("P200500210s4500g03w-9"), 3);
        reasons(c, "the pump is too small", Check.loaded("P110500210s4510g03w-9"), 4);
        reasons(c, "the pump is just enough", Check.loaded("P120500210s4510g03w-9"), 0);
        reasons(c, "the pond is too small", Check.loaded("P120011010s4510g03w-9"), 5);
        reasons(c, "the pond is just enough", Check.loaded("P120012010s4510g03w-9"), 0);
        x.allow(0, false);
        c.is("not allowed", x.whyNot(0), 1);
    }

    /** All five reasons apply at first; one after the other is taken away. */
    private static void firstReason(Check c) {
        SnowGuns x = Check.loaded("P000000000s4500g03w+0");
        x.allow(0, false);
        c.is("not allowed", x.whyNot(0), 1);
        x.allow(0, true);
        c.is("not cold", x.whyNot(0), 2);
        x.setWet(0, -9);
        c.is("ready", x.whyNot(0), 3);
        x.setSlope(0, 2, 1);
        c.is("the pump", x.whyNot(0), 4);
        x.set(0, 99);
        c.is("the pond", x.whyNot(0), 5);
        x.set(1, 99);
        x.fill(12);
        c.is("none", x.whyNot(0), 0);
    }

    private static void whatComesBefore(Check c) {
        reasons(c, "the pump is shared", Check.loaded("P210999000s1999s1099g12g01g02g00w-9"), 5 - 1, 0, 0, 0);
        reasons(c, "the rank goes first", Check.loaded("P090999000s1099s1999g02g10g12w-9"), 4, 0, 4);
        reasons(c, "the pond is shared", Check.loaded("P990010000s1999g01g01g00w-9"), 0, 5, 0);
        SnowGuns x = Check.loaded("P990999000s1003g00g00w-9");
        c.is("the second one, as long as the first warms", x.whyNot(1), 0);
        x.pass(1);
        c.is("the first one makes it ready", x.whyNot(1), 3);
        c.is("and runs itself", x.whyNot(0), 0);
        SnowGuns y = Check.loaded("P990000300s1999g00w-9");
        c.is("a pond of capacity 0", y.whyNot(0), 5);
        y.set(1, 9);
        c.is("the inflow comes before", y.whyNot(0), 0);
        y.set(2, 2);
        c.is("an inflow that is too small", y.whyNot(0), 5);
        SnowGuns z = Check.loaded("P990999000s1999g00w-9+1");
        z.pass(1);
        c.is("the temperature of the present hour", z.whyNot(0), 2);
    }

    private static void wrongGun(Check c) {
        SnowGuns x = Check.loaded("P990999000s1999g00g00w-9");
        for (int g : new int[] {-1, 2, 8, Integer.MIN_VALUE, Integer.MAX_VALUE}) {
            c.wrongIndex("whyNot(" + g + ")", x, () -> x.whyNot(g));
        }
        SnowGuns y = Check.loaded("P990999000s1999w-9");
        c.wrongIndex("no gun", y, () -> y.whyNot(0));
    }

    private static void order(Check c, String what, SnowGuns x, int... want) {
        for (int i = 0; i < want.length; i++) {
            c.is(what + ": order(" + i + ")", x.order(i), want[i]);
        }
        c.is(what + ": no more", x.order(want.length), SnowGuns.NONE);
    }

    private static void orderOfGuns(Check c) {
        SnowGuns x = Check.loaded("P990999000s1599s1999s1099s1999g20g00g10g30g10g00w-9");
        order(c, "by ranks, then by numbers", x, 2, 3, 4, 1, 5, 0);
        x.allow(3, false);
        x.setWet(0, 9);
        order(c, "also guns that would not run", x, 2, 3, 4, 1, 5, 0);
        x.setSlope(2, 1, 9);
        order(c, "by new ranks", x, 0, 2, 3, 4, 1, 5);
        order(c, "eight of one slope", Check.loaded("P990999000s1599" + "g00".repeat(8) + "w-9"), 0, 1, 2, 3, 4, 5, 6, 7);
        order(c, "no gun", Check.loaded("P990999000s1599w-9"));
    }

    private static void orderOfDepths(Check c) {
        SnowGuns x = Check.loaded("P990999000s2599s1599s9599g00g10g20w-9");
        order(c, "without snow", x, 0, 1, 2);
        x.pass(2);
        order(c, "the depths 1, 3, 0", x, 2, 0, 1);
        x.setSlope(1, 1, 6);
        order(c, "the rank goes before the depth", x, 1, 2, 0);
        // 3 snow each: the depths of the areas 2 and 3 are equal, so that the numbers decide
        SnowGuns y = Check.loaded("P990999000s2599s3599g10g00w-9");
        y.pass(2);
        order(c, "equal depths of unequal snow", y, 0, 1);
    }

    private static void wrongPlace(Check c) {
        SnowGuns x = new SnowGuns();
        c.is("order(greatest)", x.order(Integer.MAX_VALUE), SnowGuns.NONE);
        c.wrongArgument("order(-1)", x, () -> x.order(-1));
        c.wrongArgument("order(least)", x, () -> x.order(Integer.MIN_VALUE));
    }
}
