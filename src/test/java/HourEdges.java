/** The terms: an hour and the book. */
final class HourEdges {
    private HourEdges() {
    }

    static void run(Check c) {
        inflow(c);
        inflowComesFirst(c);
        orderByRanks(c);
        orderByDepths(c);
        orderByNumbers(c);
        orderStaysAmidTheHour(c);
        oneAfterTheOther(c);
        firstReason(c);
        notAllowed(c);
        noCold(c);
        readyAtThisMoment(c);
        pump(c);
        pond(c);
        becomesCold(c);
        takesItsUse(c);
        warms(c);
        runs(c);
        nothingAbove999(c);
        melts(c);
        notMoreThanItHas(c);
        halfComesBack(c);
        asFarAsTheCapacityAllows(c);
        hourIncreases(c);
        newlyReady(c);
        ascending(c);
        lastTwenty(c);
        slopeAndHour(c);
        removedSlope(c);
    }

    private static void stages(Check c, String what, SnowGuns x, int... want) {
        for (int g = 0; g < want.length; g++) {
            c.is(what + ", the stage of gun " + g, x.gun(g, 3), want[g]);
        }
    }

    private static void snows(Check c, String what, SnowGuns x, int... want) {
        for (int s = 0; s < want.length; s++) {
            c.is(what + ", the snow of slope " + s, x.slope(s, 3), want[s]);
        }
    }

    /** An empty pond with this capacity. */
    private static SnowGuns emptyPond(int capacity, int inflow) {
        SnowGuns x = Check.loaded("P990000" + inflow + "00s9999w+0");
        x.set(1, capacity);
        return x;
    }

    private static void inflow(Check c) {
        c.says(0, "The inflow comes into the pond, as far as the capacity allows; the rest is not counted.");
        int[][] rows = {{0, 0, 0}, {0, 5, 0}, {1, 0, 0}, {1, 1, 1}, {1, 2, 1}, {9, 0, 0}, {9, 1, 1}, {9, 8, 8}, {9, 9, 9},
            {9, 10, 9}};
        for (int[] row : rows) {
            SnowGuns x = emptyPond(row[1], row[0]);
            x.pass(1);
            String what = "an inflow of " + row[0] + " into a room of " + row[1];
            c.is(what, x.about(7), row[2]);
            c.is(what + " is counted", x.account(0), row[2]);
            c.is(what + " spills nothing", x.account(5), 0);
        }
        SnowGuns x = emptyPond(20, 9);
        x.pass(2);
        c.is("two hours", x.about(7), 18);
        x.pass(1);
        c.is("the third one fills it", x.about(7), 20);
        c.is("what came", x.account(0), 20);
    }

    /** A full pond takes no inflow, though the gun empties it in the same hour; an empty one feeds the gun. */
    private static void inflowComesFirst(Check c) {
        c.says(0, "1. The inflow comes into the pond, as far as the capacity allows;");
        SnowGuns x = Check.loaded("P990009900s9999g02w-9");
        x.pass(1);
        c.is("nothing comes into the full pond", x.account(0), 9);
        c.is("it is empty then", x.about(7), 0);
        x.pass(1);
        c.is("the inflow", x.account(0), 18);
        c.is("is just enough for the gun", x.gun(0, 3), 2);
        x.set(2, 8);
        x.pass(1);
        c.is("a unit less is not", x.gun(0, 3), 0);
        c.is("and stays in the pond", x.about(7), 8);
    }

    /** The pump has water for one gun alone. */
    private static void orderByRanks(Check c) {
        c.says(0, "2. The order of the guns is made, with the snow as it is now: by the ranks of their slopes, the greatest "
            + "first,");
        int[][] ranks = {{0, 1, 1}, {1, 0, 0}, {8, 9, 1}, {9, 8, 0}, {0, 9, 1}, {9, 0, 0}};
        for (int[] row : ranks) {
            SnowGuns x = Check.loaded("P030999000s1" + row[0] + "99s1" + row[1] + "99g00g10w-9");
            x.pass(1);
            stages(c, "ranks " + row[0] + " and " + row[1], x, 1 - row[2], row[2]);
        }
        SnowGuns x = Check.loaded("P030999000s1899s1999g00g10w-9");
        x.pass(9);
        snows(c, "the rank goes before the depth", x, 0, 24);
        c.is("and before the number", x.order(0), 1);
    }

    private static void orderByDepths(Check c) {
        c.says(0, "then by the depths of their slopes, the smallest first,");
        // the first hour of each gun only warms it: 3 units on slope 0, then 3 on slope 1
        SnowGuns x = Check.loaded("P030999000s1599s1599g00g10w-9");
        x.pass(2);
        snows(c, "equal depths", x, 3, 0);
        c.is("the depth 3 against 0", x.order(0), 1);
        x.pass(2);
        snows(c, "the depth 3 against 0", x, 3, 3);
        c.is("the depth 3 against 3", x.order(0), 0);
        // 3 units on an area of 2 and on an area of 1
        SnowGuns y = Check.loaded("P990999000s1599s2599g00g10w-9");
        y.pass(2);
        c.is("not by the snow", y.order(0), 1);
        SnowGuns z = Check.loaded("P990999000s4599s9599g00g10w-9");
        z.pass(2);
        c.is("the depth 0 of 3 units against 0 of 3", z.order(0), 0);
        z.pass(1);
        c.is("the depth 1 of 6 units against 0 of 6", z.order(0), 1);
    }

    private static void orderByNumbers(Check c) {
        c.says(0, "then by their numbers.");
        SnowGuns x = Check.loaded("P030999000s1599s1599g10g00g10w-9");
        for (int g = 0; g < 3; g++) {
            c.is("of equal ranks and depths, place " + g, x.order(g), g);
        }
        x.pass(1);
        stages(c, "the pump is enough for one", x, 1, 0, 0);
        // no snow against 2 units on an area of 3
        SnowGuns y = Check.loaded("P990999000s4599s3599g10g03w-4");
        y.allow(1, false);
        y.pass(3);
        c.is("of equal depths, but unequal snow", y.order(0), 0);
        SnowGuns eight = Check.loaded("P990999000s1599" + "g00".repeat(8) + "w-9");
        for (int g = 0; g < 8; g++) {
            c.is("of eight, place " + g, eight.order(g), g);
        }
    }

    /** Slope 0 is deeper than slope 1 when its first gun has run, but the order has been made before. */
    private static void orderStaysAmidTheHour(Check c) {
        c.says(0, "The order of the guns is made, with the snow as it is now:");
        SnowGuns x = Check.loaded("P990999000s1599s3599g00g00g10w-9");
        x.allow(0, false);
        x.allow(1, false);
        x.pass(2);
        c.is("the depth of slope 1", x.slope(1, 4), 1);
        x.allow(0, true);
        x.allow(1, true);
        x.set(0, 6);
        x.pass(1);
        stages(c, "two of three", x, 1, 1, 0);
        x.pass(1);
        stages(c, "the same two of three", x, 2, 2, 0);
        snows(c, "of both", x, 6, 3);
        x.pass(1);
        stages(c, "in the next hour, by the snow as it is then", x, 2, 0, 1);
    }

    /** What is left by a gun goes to the next one that it is enough for. */
    private static void oneAfterTheOther(Check c) {
        c.says(0, "The guns are looked at in this order.");
        SnowGuns x = Check.loaded("P130999000s1199s1999s1599g03g12g21g20w-9");
        x.pass(1);
        // 13 - 9 = 4: too little for 6 and, at last, for 12; enough for 3
        stages(c, "of 13 units", x, 0, 1, 0, 1);
        x.set(0, 15);
        x.pass(1);
        stages(c, "of 15 units", x, 0, 2, 1, 0);
        x.set(0, 30);
        x.pass(1);
        stages(c, "of 30 units", x, 1, 2, 2, 1);
    }

    /** Every choice out of the five causes; without cold the use is 0, so that 4 and 5 can't apply alone. */
    private static void firstReason(Check c) {
        c.says(0, "The reason of a gun is the first one of these that applies:");
        for (int causes = 0; causes < 32; causes++) {
            SnowGuns x = Check.loaded("P120012000s4510g03w-9");
            int want = 0;
            if ((causes & 16) != 0) {
                x.set(1, 11);
                want = 5;
            }
            if ((causes & 8) != 0) {
                x.set(0, 11);
                want = 4;
            }
            if ((causes & 4) != 0) {
                x.setSlope(0, 2, 0);
                want = 3;
            }
            if ((causes & 2) != 0) {
                x.setWet(0, -1);
                want = 2;
            }
            if ((causes & 1) != 0) {
                x.allow(0, false);
                want = 1;
            }
            c.is("the reason of the causes " + Integer.toBinaryString(causes), x.whyNot(0), want);
            x.pass(1);
            c.is("the gun by the causes " + Integer.toBinaryString(causes), x.gun(0, 3), want == 0 ? 1 : 0);
        }
    }

    private static void notAllowed(Check c) {
        c.says(0, "1: it is not allowed;");
        SnowGuns x = Check.loaded("P990999000s9999g00g00w-9");
        x.allow(0, false);
        c.is("the one that is not", x.whyNot(0), 1);
        c.is("the one that is", x.whyNot(1), 0);
        x.pass(5);
        stages(c, "after five hours", x, 0, 2);
        x.allow(0, true);
        c.is("allowed again", x.whyNot(0), 0);
    }

    private static void noCold(Check c) {
        c.says(0, "2: the cold is 0;");
        for (int v = -9; v <= 9; v++) {
            SnowGuns x = Check.loaded("P990999000s9999g00w+0");
            x.setWet(0, v);
            c.is("at the temperature " + v, x.whyNot(0), v >= -1 ? 2 : 0);
        }
    }

    private static void readyAtThisMoment(Check c) {
        c.says(0, "3: its slope is ready (as it is at this moment);");
        SnowGuns x = Check.loaded("P990999000s1003g00g00w-9");
        c.is("the second one, while the first one warms", x.whyNot(1), 0);
        x.pass(1);
        c.is("when the first one's snow makes it ready", x.whyNot(1), 3);
        c.is("the first one", x.whyNot(0), 0);
        x.pass(1);
        stages(c, "just ready", x, 2, 0);
        snows(c, "by the first one alone", x, 3);
        c.is("then the first one, too", x.whyNot(0), 3);
        x.pass(1);
        snows(c, "no more", x, 3);
        x.setSlope(0, 2, 4);
        c.is("the depth 3 against the target 4", x.whyNot(0), 0);
        SnowGuns y = Check.loaded("P990999000s1004g00g00w-9");
        y.pass(2);
        snows(c, "not ready by one gun's 3 units", y, 6);
    }

    private static void pump(Check c) {
        c.says(0, "4: its use is more than is left of the pump for this hour;");
        SnowGuns x = Check.loaded("P110999000s9999g03w-9");
        c.is("11 units for a use of 12", x.whyNot(0), 4);
        x.set(0, 12);
        c.is("12 units for a use of 12", x.whyNot(0), 0);
        x.set(0, 0);
        c.is("no pump", x.whyNot(0), 4);
        SnowGuns y = Check.loaded("P110999000s9999g00g02w-9");
        c.is("8 of 11 units are left for a use of 9", y.whyNot(1), 4);
        y.set(0, 12);
        c.is("9 of 12 units are left for a use of 9", y.whyNot(1), 0);
        y.pass(5);
        c.is("each hour has its own", y.whyNot(1), 0);
        y.allow(0, false);
        y.set(0, 9);
        c.is("a gun that is not allowed takes nothing", y.whyNot(1), 0);
    }

    private static void pond(Check c) {
        c.says(0, "5: its use is more than the water in the pond (at this moment); otherwise 0.");
        SnowGuns x = Check.loaded("P990011000s9999g03w-9");
        c.is("11 units for a use of 12", x.whyNot(0), 5);
        x.set(1, 12);
        x.fill(1);
        c.is("12 units for a use of 12", x.whyNot(0), 0);
        x.pass(1);
        c.is("all its water is used", x.about(7), 0);
        c.is("no water", x.whyNot(0), 5);
        SnowGuns y = Check.loaded("P990011000s9999g00g02w-9");
        c.is("8 of 11 units are left for a use of 9", y.whyNot(1), 5);
        y.set(1, 12);
        y.fill(1);
        c.is("9 of 12 units are left for a use of 9", y.whyNot(1), 0);
        y.allow(0, false);
        y.set(1, 9);
        c.is("a gun that is not allowed takes nothing", y.whyNot(1), 0);
    }

    /** For each reason, a gun that warms and one that runs; in the next hour, without the cause, it warms again. */
    private static void becomesCold(Check c) {
        c.says(0, "A gun with another reason than 0 becomes cold.");
        for (int reason = 1; reason <= 5; reason++) {
            for (int hours = 1; hours <= 2; hours++) {
                SnowGuns x = Check.loaded("P120999000s4599g03w-9");
                x.pass(hours);
                c.is("before, it warms or runs", x.gun(0, 3), hours);
                cause(x, reason);
                c.is("the reason", x.whyNot(0), reason);
                c.is("not cold before the hour", x.gun(0, 3), hours);
                int pond = x.about(7);
                c.is("no snow with the reason " + reason, x.pass(1), 0);
                c.is("cold by the reason " + reason, x.gun(0, 3), 0);
                c.is("no water with the reason " + reason, x.about(7), pond);
                noCause(x);
                c.is("a cold one only warms", x.pass(1), 0);
                c.is("it warms", x.gun(0, 3), 1);
            }
        }
    }

    private static void cause(SnowGuns x, int reason) {
        switch (reason) {
            case 1:
                x.allow(0, false);
                break;
            case 2:
                x.setWet(0, 0);
                break;
            case 3:
                x.setSlope(0, 2, 0);
                break;
            case 4:
                x.set(0, 11);
                break;
            default:
                x.set(1, 11);
                break;
        }
    }

    private static void noCause(SnowGuns x) {
        x.allow(0, true);
        x.setWet(0, -9);
        x.setSlope(0, 2, 99);
        x.set(0, 12);
        x.set(1, 999);
        x.fill(12);
    }

    private static void takesItsUse(Check c) {
        c.says(0, "A gun with the reason 0 takes its use from the pump and the pond:");
        // in the first hour both would warm, in the second both would run
        SnowGuns x = Check.loaded("P230999000s9999g03g03w-9");
        for (int hour = 1; hour <= 3; hour++) {
            x.pass(1);
            c.is("the pond after " + hour, x.about(7), 999 - 12 * hour);
            c.is("the pump leaves nothing for the second one", x.gun(1, 3), 0);
        }
        x.set(0, 24);
        x.pass(2);
        c.is("both take it", x.about(7), 999 - 12 * 3 - 24 * 2);
    }

    private static void warms(Check c) {
        c.says(0, "a cold one becomes warming, and all its use is lost in the air;");
        for (String loss : new String[] {"00", "10", "50"}) {
            SnowGuns x = Check.loaded("P9909990" + loss + "s9999g03w-9");
            c.is("no snow", x.pass(1), 0);
            c.is("it warms", x.gun(0, 3), 1);
            c.is("all its use is lost", x.account(1), 12);
            c.is("no snow that it made", x.gun(0, 4), 0);
            c.is("no hour in which it ran", x.gun(0, 5), 0);
        }
    }

    private static void runs(Check c) {
        c.says(0, "a warming or a running one runs, and makes snow.");
        SnowGuns x = Check.loaded("P990999010s9999g03w-9");
        x.pass(1);
        for (int hours = 1; hours <= 4; hours++) {
            c.is("an hour's snow", x.pass(1), 10);
            c.is("it runs", x.gun(0, 3), 2);
            c.is("all it made", x.gun(0, 4), 10 * hours);
            c.is("the hours it ran", x.gun(0, 5), hours);
            c.is("on its slope", x.slope(0, 3), 10 * hours);
            c.is("lost in the air", x.account(1), 12 + 2 * hours);
        }
    }

    /** No more than 902 units can come about, so that nothing is lost so; the account shows it at the most snow. */
    private static void nothingAbove999(Check c) {
        c.says(0, "Snow above 999 on a slope is lost in the air, too.");
        SnowGuns x = Check.loaded("P999999000s9099" + "g03".repeat(8) + "w-9");
        c.is("900 units by eight guns", x.pass(99), 900);
        c.is("all of it lies", x.slope(0, 3), 900);
        c.is("only what warmed them is lost", x.account(1), 8 * 12);
    }

    private static void melts(Check c) {
        c.says(0, "3. If the temperature is above 0, each slope, ascending, loses temperature * its area units of snow,");
        for (int v = -9; v <= 9; v++) {
            SnowGuns x = Check.loaded("P999999000s5599s2599s1599g03g13g23w-9");
            x.pass(9);
            x.allow(0, false);
            x.allow(1, false);
            x.allow(2, false);
            x.setWet(0, v);
            x.pass(1);
            int degrees = Math.max(0, v);
            snows(c, "at " + v, x, 96 - 5 * degrees, 96 - 2 * degrees, 96 - degrees);
            c.is("what melted at " + v, x.account(3), 8 * degrees);
        }
    }

    private static void notMoreThanItHas(Check c) {
        c.says(0, "but not more than it has;");
        for (int area = 1; area <= 9; area++) {
            for (int v = 1; v <= 9; v++) {
                for (int more = -1; more <= 1; more++) {
                    SnowGuns x = TermEdges.withSnow(area, area * v + more);
                    x.setWet(0, v);
                    x.pass(1);
                    String what = more + " units above " + v + " * " + area;
                    c.is("the snow behind it, " + what, x.slope(0, 3), Math.max(0, more));
                    c.is("what melted, " + what, x.account(3), area * v + Math.min(0, more));
                }
            }
        }
        SnowGuns none = TermEdges.withSnow(9, 0);
        none.setWet(0, 9);
        none.pass(1);
        c.is("nothing melts where nothing lies", none.account(3), 0);
    }

    private static void halfComesBack(Check c) {
        c.says(0, "a half of that, rounded down, comes into the pond");
        for (int units = 0; units <= 9; units++) {
            SnowGuns x = TermEdges.withSnow(9, units);
            x.setWet(0, 9);
            int pond = x.about(7);
            x.pass(1);
            c.is("comes back of " + units, x.about(7) - pond, units / 2);
            c.is("in the ground of " + units, x.account(2), units - units / 2);
            c.is("no water that came", x.account(0), 999);
        }
        // a unit melts on each of two slopes: the half of each is none
        SnowGuns x = Check.loaded("P990100000s1599s1599g00g10w-9-9+1");
        x.pass(3);
        c.is("of two slopes' units nothing comes back", x.about(7), 100 - 12);
        c.is("both are in the ground", x.account(2), 2);
    }

    private static void asFarAsTheCapacityAllows(Check c) {
        c.says(0, "comes into the pond as far as the capacity allows; the rest is lost in the ground.");
        for (int room = 0; room <= 7; room++) {
            SnowGuns x = TermEdges.withSnow(9, 12);
            x.setWet(0, 9);
            x.set(1, x.about(7) + room);
            int pond = x.about(7);
            x.pass(1);
            c.is("a half of 12 into a room of " + room, x.about(7) - pond, Math.min(6, room));
            c.is("the rest of 12", x.account(2), 12 - Math.min(6, room));
            c.is("nothing is spilled", x.account(5), 0);
        }
        // the inflow of 2 comes before the half of 12
        SnowGuns y = TermEdges.withSnow(9, 12);
        y.setWet(0, 9);
        y.set(2, 2);
        y.set(1, y.about(7) + 5);
        y.pass(1);
        c.is("the inflow", y.account(0), 999 + 2);
        c.is("three of the half", y.account(2), 9);
    }

    private static void hourIncreases(Check c) {
        c.says(0, "4. The hour increases by 1.");
        SnowGuns x = Check.loaded("P990999000s9999w-9+9");
        for (int hour = 1; hour <= 5; hour++) {
            x.pass(1);
            c.is("the hour", x.about(8), hour);
        }
        x.pass(99);
        c.is("99 hours later", x.about(8), 104);
    }

    private static void newlyReady(Check c) {
        c.says(0, "Each slope that is ready now and was not just before part 1 of this hour comes into the book, with the "
            + "hour (as it is now);");
        SnowGuns x = Check.loaded("P990999000s1003g00w-9-9-9+9-9-9");
        entries(c, "before the first hour", x);
        x.pass(1);
        entries(c, "not ready", x);
        x.pass(1);
        entries(c, "newly ready", x, 0, 2);
        x.pass(1);
        entries(c, "still ready", x, 0, 2);
        x.pass(2);
        entries(c, "no more ready", x, 0, 2);
        x.pass(1);
        entries(c, "newly ready again", x, 0, 6, 0, 2);
        x.setSlope(0, 2, 4);
        x.setSlope(0, 2, 3);
        x.pass(1);
        entries(c, "not ready only between two calls", x, 0, 6, 0, 2);
        x.setSlope(0, 2, 9);
        x.pass(2);
        entries(c, "no more ready by its target, nor ready by the snow", x, 0, 6, 0, 2);
        SnowGuns y = Check.loaded("P990999000s1000s1009w+0");
        y.setSlope(1, 2, 0);
        y.addSlope(1, 1, 0);
        y.pass(3);
        entries(c, "ready at first, by its target, or when it was added", y);
        SnowGuns z = Check.loaded("P990999000s1003g00w-9");
        z.pass(2);
        z.setSlope(0, 2, 6);
        z.pass(2);
        entries(c, "ready again, by the gun that runs still", z, 0, 3, 0, 2);
    }

    /** The book has just these entries, each a slope and an hour, the latest first. */
    private static void entries(Check c, String what, SnowGuns x, int... want) {
        c.is(what + ", entries", x.about(11), want.length / 2);
        for (int j = 0; j < want.length / 2; j++) {
            c.is(what + ", the slope of entry " + j, x.book(j, 0), want[2 * j]);
            c.is(what + ", the hour of entry " + j, x.book(j, 1), want[2 * j + 1]);
        }
        c.is(what + ", no more slopes", x.book(want.length / 2, 0), SnowGuns.NONE);
        c.is(what + ", no more hours", x.book(want.length / 2, 1), SnowGuns.NONE);
    }

    private static void ascending(Check c) {
        c.says(0, "with the hour (as it is now); ascending.");
        SnowGuns x = Check.loaded("P990999000s1001s1101s1201s1301s1401s1501g50g00g40g10g30g20w-9");
        x.pass(2);
        entries(c, "six in one hour", x, 5, 2, 4, 2, 3, 2, 2, 2, 1, 2, 0, 2);
    }

    /** In the hours 2, 5, 8, .. each of the slopes becomes ready; their snow melts an hour later. */
    private static SnowGuns readyInThirds(int slopes) {
        StringBuilder text = new StringBuilder("P999999000");
        for (int s = 0; s < slopes; s++) {
            text.append("s1001");
        }
        for (int s = 0; s < slopes; s++) {
            text.append('g').append(s).append('0');
        }
        return Check.loaded(text + "w-9-9+9");
    }

    private static void lastTwenty(Check c) {
        c.says(0, "The book has the last 20 entries;");
        SnowGuns x = readyInThirds(1);
        for (int count = 1; count <= 45; count++) {
            x.pass(count == 1 ? 2 : 3);
            int held = Math.min(count, 20);
            c.is("entries", x.about(11), held);
            c.is("the latest of " + count, x.book(0, 1), 3 * count - 1);
            c.is("the oldest of " + count, x.book(held - 1, 1), 3 * (count - held) + 2);
            c.is("none before it of " + count, x.book(held, 1), SnowGuns.NONE);
        }
        // 24 entries by six slopes: the first four are gone
        SnowGuns six = readyInThirds(6);
        six.pass(11);
        c.is("of 24 entries", six.about(11), 20);
        for (int j = 0; j < 20; j++) {
            c.is("the slope of entry " + j, six.book(j, 0), 5 - j % 6);
            c.is("the hour of entry " + j, six.book(j, 1), 11 - 3 * (j / 6));
        }
        c.is("no 21st one", six.book(20, 0), SnowGuns.NONE);
    }

    private static void slopeAndHour(Check c) {
        c.says(0, "each has a slope and an hour.");
        SnowGuns x = readyInThirds(6);
        x.pass(5);
        for (int j = 0; j < 12; j++) {
            c.is("the slope of entry " + j, x.book(j, 0), 5 - j % 6);
            c.is("the hour of entry " + j, x.book(j, 1), j < 6 ? 5 : 2);
        }
    }

    private static void removedSlope(Check c) {
        c.says(0, "If a slope is removed, its entries go, and the numbers of slopes in others decrease accordingly.");
        for (int removed = 0; removed < 3; removed++) {
            SnowGuns x = readyInThirds(3);
            x.pass(5);
            entries(c, "before", x, 2, 5, 1, 5, 0, 5, 2, 2, 1, 2, 0, 2);
            x.bring(removed, removed == 0 ? 1 : 0);
            x.removeSlope(removed);
            entries(c, "without slope " + removed, x, 1, 5, 0, 5, 1, 2, 0, 2);
        }
        // of 20 entries four go; the four that were forgotten do not come back, and four more have room
        SnowGuns full = readyInThirds(6);
        full.pass(11);
        full.bring(5, 0);
        full.removeSlope(5);
        c.is("of 20 entries", full.about(11), 20 - 4);
        c.is("the oldest one", full.book(15, 0), 4);
        c.is("its hour", full.book(15, 1), 2);
        full.pass(3);
        c.is("five more find room for four", full.about(11), 20);
        c.is("the oldest one then", full.book(19, 0), 0);
        c.is("its hour then", full.book(19, 1), 5);
        SnowGuns none = readyInThirds(2);
        none.pass(1);
        none.bring(0, 1);
        none.removeSlope(0);
        entries(c, "an empty book", none);
        SnowGuns only = readyInThirds(1);
        only.pass(5);
        only.addSlope(1, 1, 1);
        only.bring(0, 1);
        only.removeSlope(0);
        entries(c, "the only slope with entries", only);
    }
}
