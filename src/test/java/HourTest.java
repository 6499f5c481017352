/** Promise 12, pass, with all that an hour does. */
public final class HourTest {
    public static void main(String[] args) {
        Check c = new Check();
        range(c);
        warmingAndRunning(c);
        inflow(c);
        losses(c);
        orderByRankDepthNumber(c);
        pump(c);
        pond(c);
        readyAmidTheHour(c);
        becomesCold(c);
        melting(c);
        meltingIntoAFullPond(c);
        bookOnlyOfNewlyReady(c);
        sixSlopes(c);
        oneAction(c);
        c.end("HourTest");
    }

    private static void range(Check c) {
        SnowGuns x = new SnowGuns();
        for (int m : new int[] {0, -1, 100, Integer.MIN_VALUE, Integer.MAX_VALUE}) {
            c.wrongArgument("pass(" + m + ")", x, () -> x.pass(m));
        }
        c.is("pass(1)", x.pass(1), 0);
        // each hour 2 units, 1 of them lost; the target of 40 units is met after 41 hours
        c.is("pass(99)", x.pass(99), 40);
        c.is("the hour", x.about(8), 100);
    }

    private static void warmingAndRunning(Check c) {
        SnowGuns x = new SnowGuns();
        c.is("a gun that warms makes no snow", x.pass(1), 0);
        state(c, x, 1, 498, 0);
        c.is("all its use is lost", x.account(1), 2);
        c.is("and not counted as an hour", x.gun(0, 5), 0);
        c.is("a running gun makes snow", x.pass(1), 1);
        state(c, x, 2, 498, 1);
        c.is("its loss", x.account(1), 3);
        c.is("the inflow", x.account(0), 502);
        c.is("three more", x.pass(3), 3);
        state(c, x, 2, 498, 4);
        c.is("all it made", x.gun(0, 4), 4);
        c.is("the hours it ran", x.gun(0, 5), 4);
    }

    private static void state(Check c, SnowGuns x, int stage, int pond, int snow) {
        c.is("the stage in hour " + x.about(8), x.gun(0, 3), stage);
        c.is("the pond in hour " + x.about(8), x.about(7), pond);
        c.is("the snow in hour " + x.about(8), x.slope(0, 3), snow);
    }

    private static void inflow(Check c) {
        SnowGuns x = Check.loaded("P200010900s1001w+0");
        x.pass(1);
        c.is("a full pond takes nothing", x.account(0), 10);
        x.set(1, 0);
        x.set(1, 12);
        x.pass(1);
        c.is("the inflow", x.about(7), 9);
        x.pass(1);
        c.is("as far as the capacity allows", x.about(7), 12);
        c.is("the rest is not counted", x.account(0), 22);
        // the inflow comes before the guns: use 3 of an empty pond
        SnowGuns y = Check.loaded("P200000300s1909g00w-9");
        y.set(1, 9);
        y.pass(1);
        c.is("the inflow feeds the gun", y.gun(0, 3), 1);
        c.is("and is used", y.about(7), 0);
    }

    private static void losses(Check c) {
        int[][] rows = {{0, 0}, {1, 1}, {8, 1}, {9, 2}, {25, 3}, {33, 4}, {34, 5}, {50, 6}};
        for (int[] row : rows) {
            SnowGuns x = Check.loaded("P990999000s9999g03w-9");
            x.set(3, row[0]);
            c.is("12 units with a loss of " + row[0], x.pass(2), 12 - row[1]);
            c.is("in the air with a loss of " + row[0], x.account(1), 12 + row[1]);
        }
        for (int loss = 0; loss <= 50; loss++) {
            SnowGuns x = Check.loaded("P990999000s9999g00w-4");
            x.set(3, loss);
            c.is("one unit with a loss of " + loss, x.pass(2), loss == 0 ? 1 : 0);
        }
        int[] makes = {0, 1, 2, 3};
        for (int k = 0; k < 4; k++) {
            for (int cold = 0; cold <= 3; cold++) {
                SnowGuns x = Check.loaded("P990999000s9999g0" + k + "w" + new String[] {"-1", "-2", "-5", "-8"}[cold]);
                c.is("nozzle " + k + " at the cold " + cold, x.pass(2), (makes[k] + 1) * cold);
            }
        }
    }

    /** The pump is enough for one gun in each hour; it goes to the first one of the order. */
    private static void orderByRankDepthNumber(Check c) {
        SnowGuns x = Check.loaded("P030999000s1599s1999s1599g20g00g10w-9");
        x.pass(2);
        snows(c, x, "the rank goes first", 0, 3, 0);
        x.setSlope(1, 1, 5);
        x.pass(2);
        snows(c, x, "then the least depth, then the number", 0, 3, 3);
        x.pass(2);
        snows(c, x, "now the only one without snow", 3, 3, 3);
        SnowGuns y = Check.loaded("P030999000s2599s1599g00g10w-9");
        y.pass(2);
        snows(c, y, "the least number", 3, 0);
        y.pass(2);
        snows(c, y, "depth 1 against 0", 3, 3);
        y.pass(2);
        snows(c, y, "depth 1 against 3, though the snow is equal", 6, 3);
    }

    private static void snows(Check c, SnowGuns x, String what, int... want) {
        for (int s = 0; s < want.length; s++) {
            c.is(what + ", slope " + s, x.slope(s, 3), want[s]);
        }
    }

    private static void pump(Check c) {
        SnowGuns x = Check.loaded("P110999000s9999g01g00g00w-9");
        c.is("6 + 3 of 11, then 3 are too much", x.pass(2), 9);
        c.is("the third stays cold", x.gun(2, 3), 0);
        x.set(0, 12);
        c.is("just enough", x.pass(2), 9 + 12);
        x.set(0, 5);
        c.is("a small one behind a large one", x.pass(1), 3);
        c.is("the large one is cold", x.gun(0, 3), 0);
        c.is("the small one runs", x.gun(1, 3), 2);
        c.is("no water is left for the third", x.gun(2, 3), 0);
        x.set(0, 0);
        c.is("without the pump", x.pass(5), 0);
    }

    private static void pond(Check c) {
        SnowGuns x = Check.loaded("P990019000s9999g01g00g00w-9");
        c.is("12 of 19, then 6 and 1 is left", x.pass(2), 6);
        c.is("one unit stays", x.about(7), 1);
        c.is("the second one stopped", x.gun(1, 3), 0);
        c.is("no more", x.pass(3), 0);
        x.fill(2);
        x.pass(1);
        c.is("just enough for a small gun", x.about(7), 0);
        c.is("it warms", x.gun(1, 3), 1);
    }

    private static void readyAmidTheHour(Check c) {
        SnowGuns x = Check.loaded("P990999000s1003g00g00w-9");
        c.is("only the first one makes snow", x.pass(2), 3);
        c.is("it runs", x.gun(0, 3), 2);
        c.is("the second one stops", x.gun(1, 3), 0);
        c.is("it uses nothing", x.about(7), 999 - 9);
        c.is("no snow on a ready slope", x.pass(1), 0);
        c.is("the first one stops", x.gun(0, 3), 0);
        SnowGuns y = Check.loaded("P990999000s2007g03w-9");
        c.is("above its target", y.pass(9), 24);
        c.is("and no more", y.slope(0, 3), 24);
        SnowGuns z = Check.loaded("P991999000s9999g03g03g03g03w-9");
        c.is("the most that can lie", z.pass(99), 900);
    }

    private static void becomesCold(Check c) {
        SnowGuns x = Check.loaded("P990999000s9999g00w-9-9-1-9");
        x.pass(2);
        c.is("it runs", x.gun(0, 3), 2);
        x.pass(1);
        c.is("it is cold without cold", x.gun(0, 3), 0);
        c.is("it warms again", x.pass(1), 0);
        x.allow(0, false);
        c.is("not yet cold", x.gun(0, 3), 1);
        x.pass(1);
        c.is("cold when not allowed", x.gun(0, 3), 0);
        c.is("the hours it ran", x.gun(0, 5), 1);
    }

    private static void melting(Check c) {
        SnowGuns x = Check.loaded("P990100000s3599s2099g03w-9");
        x.pass(3);
        c.is("the pond before", x.about(7), 64);
        x.setWet(0, 5);
        c.is("no gun in the warm", x.pass(1), 0);
        c.is("5 * 3 melt", x.slope(0, 3), 9);
        c.is("7 come back", x.about(7), 71);
        c.is("8 are lost", x.account(2), 8);
        x.setWet(0, 0);
        x.pass(4);
        c.is("nothing melts at 0", x.slope(0, 3), 9);
        x.setWet(0, 4);
        x.pass(1);
        c.is("not more than there is", x.slope(0, 3), 0);
        c.is("4 come back", x.about(7), 75);
        c.is("5 are lost", x.account(2), 13);
        c.is("what melted", x.account(3), 24);
        c.is("no inflow is counted", x.account(0), 100);
        twoSlopes(c);
    }

    /** Each slope's half is rounded down by itself. */
    private static void twoSlopes(Check c) {
        SnowGuns x = Check.loaded("P990100000s1599s1599g00g10w-9-9+1");
        x.pass(2);
        c.is("the pond before", x.about(7), 88);
        x.pass(1);
        c.is("1 and 1 melt", x.account(3), 2);
        c.is("nothing comes back", x.about(7), 88);
        c.is("2 are lost", x.account(2), 2);
    }

    private static void meltingIntoAFullPond(Check c) {
        SnowGuns x = Check.loaded("P990100000s3599s3499g03g13w-9-9+4+0");
        x.pass(2);
        c.is("the pond before", x.about(7), 52);
        x.set(1, 55);
        x.pass(1);
        c.is("full by the first slope", x.about(7), 55);
        c.is("what melted", x.account(3), 24);
        c.is("the rest is lost", x.account(2), 21);
        c.is("not spilled", x.account(5), 0);
    }

    private static void bookOnlyOfNewlyReady(Check c) {
        SnowGuns x = Check.loaded("P990999000s1003g00w-9-9-9-9+2-9");
        x.pass(4);
        c.is("one entry for three ready hours", x.about(11), 1);
        x.pass(1);
        c.is("none when it melts", x.about(11), 1);
        x.pass(2);
        c.is("again", x.about(11), 2);
        c.is("with the hour then", x.book(0, 1), 7 + 1 - 1);
        c.is("and the first one", x.book(1, 1), 2);
        SnowGuns y = Check.loaded("P990999000s1002w+0");
        y.setSlope(0, 2, 0);
        y.pass(3);
        c.is("none by a target", y.about(11), 0);
    }

    /** Slopes 0, 2 and 5 have guns; in the third hour 1 unit melts for each unit of area. */
    private static void sixSlopes(Check c) {
        SnowGuns x = Check.loaded("P990999000s1503s2500s3501s4500s5500s6501g00g21g52w-9-9+1");
        x.pass(2);
        snows(c, x, "made", 3, 0, 6, 0, 0, 9);
        c.is("entries", x.about(11), 3);
        for (int j = 0; j < 3; j++) {
            c.is("entry " + j, x.book(j, 0), new int[] {5, 2, 0}[j]);
        }
        x.pass(1);
        snows(c, x, "melted", 2, 0, 3, 0, 0, 3);
        c.is("what melted", x.account(3), 10);
        c.is("what was lost", x.account(2), 1 + 2 + 3);
        c.is("the first one of six goes", x.removeSlope(1), 0);
        snows(c, x, "five slopes", 2, 3, 0, 0, 3);
        x.undo();
        snows(c, x, "six again", 2, 0, 3, 0, 0, 3);
    }

    private static void oneAction(Check c) {
        SnowGuns x = new SnowGuns();
        String before = Check.seen(x);
        x.pass(50);
        c.is("one action", x.undo(), 0);
        c.same("the state before it", Check.seen(x), before);
    }
}
