/** Promises 23 to 29: whyNot, order, ahead, readyAfter, bestPlace, missing, coldest. */
final class ForecastEdges {
    private ForecastEdges() {
    }

    static void run(Check c) {
        whyNotInflow(c);
        whyNotGunsAhead(c);
        whyNotIsTheNextHour(c);
        whyNotGuns(c);
        order(c);
        orderRange(c);
        ahead(c);
        aheadRange(c);
        readyNow(c);
        readyInThreeHundred(c);
        readyAtFirst(c);
        neverReady(c);
        readyAfterSlopes(c);
        mostReady(c);
        mostSnow(c);
        smallestSlope(c);
        ninthGun(c);
        bestPlaceRange(c);
        missingMultiples(c);
        missingMost(c);
        missingCapacity(c);
        missingGreatest(c);
        missingHours(c);
        coldestRange(c);
        coldestFirst(c);
        coldestRoundTheEnd(c);
        coldestSums(c);
    }

    private static void whyNotInflow(Check c) {
        c.says(23, "Tells the reason that a gun would have in the next hour (with the inflow,");
        for (int inflow = 0; inflow <= 9; inflow++) {
            for (int use = 3; use <= 12; use += 3) {
                SnowGuns x = Check.loaded("P990003" + inflow + "00s9999g0" + (use / 3 - 1) + "w-9");
                x.set(1, 9999);
                c.is("a use of " + use + " of 3 units and " + inflow, x.whyNot(0), use <= 3 + inflow ? 0 : 5);
            }
        }
        SnowGuns x = Check.loaded("P990011900s9999g03w-9");
        c.is("as far as the capacity of 11 allows", x.whyNot(0), 5);
        x.set(1, 12);
        c.is("as far as the capacity of 12 allows", x.whyNot(0), 0);
    }

    private static void whyNotGunsAhead(Check c) {
        c.says(23, "and with what the guns ahead of it in the order take and make).");
        // the order is 2, 0, 1 with the uses 6, 9, 3
        SnowGuns x = Check.loaded("P180018000s9599s9999g02g00g11w-9");
        int[][] rows = {{18, 0, 0, 0}, {17, 0, 4, 0}, {15, 0, 4, 0}, {14, 4, 0, 0}, {9, 4, 0, 0}, {8, 4, 4, 0}, {6, 4, 4, 0},
            {5, 4, 0, 4}, {3, 4, 0, 4}, {2, 4, 4, 4}, {0, 4, 4, 4}};
        for (int[] row : rows) {
            x.set(0, row[0]);
            for (int g = 0; g < 3; g++) {
                c.is("gun " + g + " with a pump of " + row[0], x.whyNot(g), row[g + 1]);
            }
        }
        x.set(0, 99);
        for (int[] row : rows) {
            x.set(1, row[0]);
            for (int g = 0; g < 3; g++) {
                c.is("gun " + g + " with " + row[0] + " units", x.whyNot(g), row[g + 1] == 4 ? 5 : 0);
            }
        }
        SnowGuns y = Check.loaded("P990999000s1003g00g00w-9");
        c.is("what warms makes nothing", y.whyNot(1), 0);
        y.pass(1);
        c.is("what runs makes it ready", y.whyNot(1), 3);
        c.is("but only for those behind it", y.whyNot(0), 0);
    }

    private static void whyNotIsTheNextHour(Check c) {
        c.says(23, "Returns the reason, 0 to 5.");
        SnowGuns x = Check.loaded("P190080410s2603s3601s9999g03g02g11g10g22g20w-9-4-6+2-8-1");
        x.allow(1, false);
        boolean[] found = new boolean[6];
        for (int hour = 0; hour < 30; hour++) {
            int[] told = new int[6];
            for (int g = 0; g < 6; g++) {
                told[g] = x.whyNot(g);
                found[told[g]] = true;
            }
            x.pass(1);
            for (int g = 0; g < 6; g++) {
                c.is("gun " + g + " in the hour " + hour + ", stopped", x.gun(g, 3) == 0 ? 1 : 0, told[g] == 0 ? 0 : 1);
            }
        }
        for (int reason = 0; reason <= 5; reason++) {
            c.is("the reason " + reason + " came about", found[reason] ? 1 : 0, 1);
        }
    }

    private static void whyNotGuns(Check c) {
        c.says(23, "- `g`: gun");
        c.says(23, "Throws `IndexOutOfBoundsException` if there is no such gun");
        c.numbers("whyNot", Situations::fresh, 1, SnowGuns::whyNot);
        c.numbers("whyNot", Situations::used, 3, SnowGuns::whyNot);
        c.numbers("whyNot", Situations::full, 8, SnowGuns::whyNot);
        c.noSuch("whyNot", Situations::bare, 0, SnowGuns::whyNot);
    }

    private static void order(Check c) {
        c.says(24, "Returns a gun of the order in which they would be looked at in the next hour.");
        SnowGuns x = Check.loaded("P990999000s1099s1999s1999g00g10g20g10w-9");
        int[] want = {1, 2, 3, 0};
        for (int i = 0; i < 4; i++) {
            c.is("order(" + i + ")", x.order(i), want[i]);
        }
        x.allow(3, false);
        x.allow(2, false);
        x.pass(2);
        int[] then = {2, 1, 3, 0};
        for (int i = 0; i < 4; i++) {
            c.is("by the depths then, order(" + i + ")", x.order(i), then[i]);
        }
    }

    private static void orderRange(Check c) {
        c.says(24, "- `i`: 0 for the first one");
        c.says(24, "Returns the gun; NONE if there are not so many.");
        c.says(24, "Throws `IllegalArgumentException` if i is negative");
        for (int guns = 0; guns <= 8; guns++) {
            SnowGuns x = Check.loaded("P990999000s1099" + "g00".repeat(guns) + "w-9");
            for (int i = 0; i < guns; i++) {
                c.is("order(" + i + ") of " + guns, x.order(i), i);
            }
            for (int i : new int[] {guns, guns + 1, 8, 9, Integer.MAX_VALUE}) {
                c.is("order(" + i + ") of " + guns, x.order(i), SnowGuns.NONE);
            }
        }
        for (int i : new int[] {-1, Integer.MIN_VALUE}) {
            c.refused("order(" + i + ")", Situations::used, IllegalArgumentException.class, x -> x.order(i));
            c.refused("order(" + i + ")", Situations::bare, IllegalArgumentException.class, x -> x.order(i));
        }
    }

    private static void ahead(Check c) {
        c.says(25, "Tells a number after hours without other changes.");
        c.says(25, "- `what`: 0: the snow on all slopes; 1: the water in the pond; 2: the number of slopes that are ready; 3: the "
            + "snow that guns made in these hours; 4: what melted in them");
        c.says(25, "Returns that number.");
        for (int m : new int[] {0, 1, 2, 3, 4, 5, 6, 50, 98, 99}) {
            SnowGuns x = Check.loaded("P990300310s4503s9999s1000g03g11w-9-9-9+1+9");
            x.pass(9);
            int[] told = new int[5];
            for (int what = 0; what < 5; what++) {
                told[what] = x.ahead(m, what);
            }
            int melted = x.account(3);
            int made = m == 0 ? 0 : x.pass(m);
            int[] want = {x.account(4), x.about(7), x.about(9), made, x.account(3) - melted};
            for (int what = 0; what < 5; what++) {
                c.is("ahead(" + m + ", " + what + ")", told[what], want[what]);
            }
        }
        SnowGuns y = Check.loaded("P990999000s9999s9999g00w-9");
        y.bestPlace(3, 50);
        c.is("nothing of a gun that another forecast added", y.ahead(3, 3), 6);
        SnowGuns x = new SnowGuns();
        int[] now = {0, 500, 0, 0, 0};
        for (int what = 0; what < 5; what++) {
            c.is("ahead(0, " + what + ") of a new object", x.ahead(0, what), now[what]);
        }
    }

    private static void aheadRange(Check c) {
        c.says(25, "- `m`: number of hours, 0 to 99");
        c.says(25, "Throws `IllegalArgumentException` if m or what is out of range");
        for (int what = 0; what < 5; what++) {
            int w = what;
            c.range("ahead(.., " + what + ")", Situations::used, 0, 99, (x, m) -> x.ahead(m, w));
        }
        c.range("ahead(0, ..)", Situations::used, 0, 4, (x, what) -> x.ahead(0, what));
        c.range("ahead(99, ..)", Situations::bare, 0, 4, (x, what) -> x.ahead(99, what));
        c.refused("both out of range", Situations::used, IllegalArgumentException.class, x -> x.ahead(100, 5));
    }

    private static void readyNow(Check c) {
        c.says(26, "Tells when a slope is ready.");
        SnowGuns x = Check.loaded("P990999000s1000s1003s1004g10g20w-9");
        int[] want = {0, 2, 3};
        for (int s = 0; s < 3; s++) {
            c.is("readyAfter(" + s + ")", x.readyAfter(s), want[s]);
        }
        x.pass(1);
        c.is("an hour later", x.readyAfter(1), 1);
        x.pass(1);
        c.is("ready now", x.readyAfter(1), 0);
        c.is("not the other", x.readyAfter(2), 1);
    }

    /** One unit an hour behind the first one, for 4 * 99 = 396 units. */
    private static void readyInThreeHundred(Check c) {
        c.says(26, "Returns the smallest number of hours, 0 to 300, after which (without other changes) it is ready;");
        SnowGuns x = Check.loaded("P990999000s4099g00w-4");
        x.pass(95);
        int[] want = {SnowGuns.NONE, SnowGuns.NONE, 300, 299, 298};
        for (int i = 0; i < want.length; i++) {
            c.is("of " + (302 - i) + " hours", x.readyAfter(0), want[i]);
            x.pass(1);
        }
        x.pass(99);
        x.pass(99);
        x.pass(98);
        c.is("one hour", x.readyAfter(0), 1);
        x.pass(1);
        c.is("no hour", x.readyAfter(0), 0);
    }

    /** Ready after the hours 2, 3 and 4, and again after 8, 9 and 10; the snow melts in between. */
    private static void readyAtFirst(Check c) {
        c.says(26, "Returns the smallest number of hours,");
        SnowGuns x = Check.loaded("P990999000s1003g00w-9-9-9-9+9+9");
        int[] want = {2, 1, 0, 0, 0, 3, 2, 1, 0, 0, 0, 3};
        for (int hour = 0; hour < want.length; hour++) {
            c.is("in the hour " + hour, x.readyAfter(0), want[hour]);
            x.pass(1);
        }
    }

    private static void neverReady(Check c) {
        c.says(26, "NONE if there is none.");
        c.is("no gun", Check.loaded("P990999000s1001w-9").readyAfter(0), SnowGuns.NONE);
        c.is("no cold", Check.loaded("P990999000s1001g00w-1").readyAfter(0), SnowGuns.NONE);
        c.is("no water", Check.loaded("P990000000s1001g00w-9").readyAfter(0), SnowGuns.NONE);
        c.is("all is lost", Check.loaded("P990999050s1001g00w-4").readyAfter(0), SnowGuns.NONE);
        c.is("cold for an hour at a time", Check.loaded("P990999000s1001g00w-9+0").readyAfter(0), SnowGuns.NONE);
        c.is("cold for two hours", Check.loaded("P990999000s1001g00w+0-9-9").readyAfter(0), 3);
    }

    private static void readyAfterSlopes(Check c) {
        c.says(26, "- `s`: slope");
        c.says(26, "Throws `IndexOutOfBoundsException` if there is no such slope");
        c.numbers("readyAfter", Situations::fresh, 1, SnowGuns::readyAfter);
        c.numbers("readyAfter", Situations::used, 3, SnowGuns::readyAfter);
        c.numbers("readyAfter", Situations::full, 6, SnowGuns::readyAfter);
        c.noSuch("readyAfter", Situations::bare, 0, SnowGuns::readyAfter);
    }

    private static void mostReady(Check c) {
        c.says(27, "Finds the slope at which one more gun would help most.");
        c.says(27, "leads to the most slopes that are ready after m hours,");
        // 12 units an hour on slope 0 would be more snow, but slope 2 is ready by 3
        SnowGuns x = Check.loaded("P990999000s9999s1013s1012w-9");
        c.is("ready by 12 units, not by 13", x.bestPlace(3, 2), 2);
        c.is("an hour earlier none is ready", x.bestPlace(3, 1), 0);
        c.is("an hour later both are, by the same snow at first", x.bestPlace(3, 3), 1);
        // ready after two hours, but not after three
        SnowGuns y = Check.loaded("P990999000s1099s1003w-9-9+1");
        c.is("after two hours", y.bestPlace(0, 2), 1);
        c.is("after three hours", y.bestPlace(0, 3), 0);
        // the gun at slope 0 needs all the pump, and slope 1 has one of its own
        SnowGuns z = Check.loaded("P030999000s1999s1103g10w-9");
        c.is("a place where it does no harm", z.bestPlace(0, 2), 1);
    }

    private static void mostSnow(Check c) {
        c.says(27, "among several the one that leads to the most snow on all slopes,");
        // of 3 units, 2 melt on slope 0, and 1 on slope 1
        c.is("a unit more", Check.loaded("P990999000s2999s1099w-9-9+1").bestPlace(0, 3), 1);
        c.is("a unit less", Check.loaded("P990999000s1999s2099w-9-9+1").bestPlace(0, 3), 0);
        c.is("the last of six", Check.loaded("P990999000s3199s3199s2199s3199s2199s1199w-9-9+1").bestPlace(0, 3), 5);
        c.is("both are ready", Check.loaded("P990999000s1003s1006s1007w-9").bestPlace(0, 9), 2);
        // 30 units lie on slope 0, where a gun would take the pump from the larger one at slope 1
        SnowGuns x = Check.loaded("P080999000s9999s9099g01w-9");
        x.pass(6);
        x.bring(0, 1);
        c.is("36 units on both against 33", x.bestPlace(0, 2), 1);
    }

    private static void smallestSlope(Check c) {
        c.says(27, "then the one with the smallest number;");
        c.is("six alike", Check.loaded("P990999000s1999s1999s1999s1999s1999s1999w-9").bestPlace(3, 9), 0);
        c.is("the last two alike", Check.loaded("P990999000s2999s1999s1999w-9-9+1").bestPlace(0, 3), 1);
        c.is("nothing helps", Check.loaded("P990999000s2999s1999s1001w+0").bestPlace(3, 99), 0);
        c.says(27, "NONE without slopes.");
        c.is("none", Situations.bare().bestPlace(0, 1), SnowGuns.NONE);
        c.is("none", Situations.bare().bestPlace(3, 99), SnowGuns.NONE);
        SnowGuns x = Situations.bare();
        x.addSlope(1, 1, 1);
        c.is("one", x.bestPlace(3, 99), 0);
    }

    private static void ninthGun(Check c) {
        c.says(27, "Returns the slope at which a gun with this nozzle, added now (also a ninth one),");
        // eight guns use 24 units; a ninth one of the nozzle 1 uses 6
        SnowGuns x = Check.loaded("P300999000s9999s1006" + "g00".repeat(8) + "w-9");
        c.is("a ninth one", x.bestPlace(1, 2), 1);
        c.is("added now, it warms first", x.bestPlace(1, 1), 0);
        x.set(0, 29);
        c.is("a unit of the pump too few, for each place", x.bestPlace(1, 2), 0);
        x.set(0, 30);
        c.is("a nozzle too small", x.bestPlace(0, 2), 0);
        c.is("eight stay", x.about(5), 8);
        SnowGuns y = Check.loaded("P990999000s9999s9999g00w-9");
        for (int nozzle = 0; nozzle <= 3; nozzle++) {
            int[] snow = new int[2];
            for (int s = 0; s < 2; s++) {
                SnowGuns twin = Check.loaded("P990999000s9999s9999g00w-9");
                twin.addGun(s, nozzle);
                twin.pass(9);
                snow[s] = twin.account(4);
            }
            c.is("the same as added, nozzle " + nozzle, y.bestPlace(nozzle, 9), snow[1] > snow[0] ? 1 : 0);
        }
    }

    private static void bestPlaceRange(Check c) {
        c.says(27, "- `nozzle`: 0 to 3");
        c.says(27, "Throws `IllegalArgumentException` if an argument is out of range");
        c.range("bestPlace(.., 1)", Situations::used, 0, 3, (x, nozzle) -> x.bestPlace(nozzle, 1));
        c.range("bestPlace(.., 99)", Situations::full, 0, 3, (x, nozzle) -> x.bestPlace(nozzle, 99));
        c.range("bestPlace(.., 9), without slopes", Situations::bare, 0, 3, (x, nozzle) -> x.bestPlace(nozzle, 9));
        c.says(27, "- `m`: number of hours, 1 to 99");
        c.range("bestPlace(0, ..)", Situations::used, 1, 99, (x, m) -> x.bestPlace(0, m));
        c.range("bestPlace(3, ..)", Situations::full, 1, 99, (x, m) -> x.bestPlace(3, m));
        c.range("bestPlace(0, ..), without slopes", Situations::bare, 1, 99, (x, m) -> x.bestPlace(0, m));
        c.refused("both", Situations::bare, IllegalArgumentException.class, x -> x.bestPlace(4, 0));
        SnowGuns x = Check.loaded("P990999000s1099s1098w-4");
        c.is("ready after 99 hours", x.bestPlace(0, 99), 1);
        c.is("not after 98", x.bestPlace(0, 98), 0);
    }

    /** The pond is empty, and the gun uses one unit an hour; it makes one in all hours but the first one. */
    private static SnowGuns oneAnHour(int target) {
        SnowGuns x = Check.loaded("P990000000s1099g00w-4");
        x.set(1, 9999);
        x.setSlope(0, 2, target);
        return x;
    }

    private static void missingMultiples(Check c) {
        c.says(28, "Finds the water that is missing.");
        c.says(28, "Returns the smallest multiple of 10, 0 to 990, such that after fill() by so many units now (none for 0;");
        for (int target = 0; target <= 98; target++) {
            int units = target == 0 ? 0 : target + 1;
            c.is(units + " units are missing", oneAnHour(target).missing(99), (units + 9) / 10 * 10);
        }
        SnowGuns x = oneAnHour(9);
        x.fill(10);
        c.is("none is missing", x.missing(99), 0);
        x = oneAnHour(10);
        x.fill(10);
        c.is("one is missing", x.missing(99), 10);
    }

    /** Two guns use 18 units an hour, and make 16 in all hours but the first one: 990 units in 55 hours. */
    private static void missingMost(Check c) {
        c.says(28, "Returns the smallest multiple of 10, 0 to 990,");
        SnowGuns x = Check.loaded("P990000010s9096g02g02w-9");
        x.set(1, 9999);
        c.is("54 * 16 units for the depth 96", x.missing(55), 990);
        c.is("in more hours", x.missing(99), 990);
        c.is("in an hour less", x.missing(54), 0);
        x.setSlope(0, 2, 94);
        c.is("53 * 16 units for the depth 94", x.missing(55), 980);
        x.setSlope(0, 2, 97);
        c.is("more than 990", x.missing(99), 0);
        x.fill(17);
        c.is("56 * 18 units, but one, for the depth 97", x.missing(99), 0);
        x.fill(1);
        c.is("56 * 18 units for the depth 97", x.missing(99), 990);
    }

    private static void missingCapacity(Check c) {
        c.says(28, "what the capacity does not allow does not come in)");
        int[][] rows = {{0, 0}, {9, 0}, {10, 10}, {11, 10}, {20, 10}};
        for (int[] row : rows) {
            SnowGuns x = oneAnHour(9);
            x.set(1, row[0]);
            c.is("10 units with a capacity of " + row[0], x.missing(99), row[1]);
        }
        int[][] more = {{14, 0}, {15, 20}, {16, 20}, {19, 20}, {20, 20}, {21, 20}};
        for (int[] row : more) {
            SnowGuns x = oneAnHour(14);
            x.set(1, row[0]);
            c.is("15 units with a capacity of " + row[0], x.missing(99), row[1]);
        }
        for (int room = 0; room <= 25; room++) {
            // just the room is missing; a unit more can't come in
            SnowGuns x = oneAnHour(39);
            x.set(1, 40);
            x.fill(40 - room);
            c.is(room + " units into a room of " + room, x.missing(99), (room + 9) / 10 * 10);
            x.setSlope(0, 2, 40);
            c.is("a unit more into a room of " + room, x.missing(99), 0);
        }
    }

    private static void missingGreatest(Check c) {
        c.says(28, "the greatest number of slopes is ready after m hours that any of these numbers leads to.");
        // with 20 or 30 units the gun of slope 0 takes the pump from the one of slope 1, in one of two hours
        SnowGuns x = Check.loaded("P120000000s9999s1003g03g10w-9");
        x.set(1, 9999);
        c.is("more water is less", x.missing(2), 10);
        // slope 0 needs 6 units, slope 1 needs 12 more, slope 2 has no gun
        SnowGuns y = Check.loaded("P990000000s1903s1506s9001g00g11w-9");
        y.set(1, 9999);
        c.is("two of three", y.missing(2), 20);
        y.setSlope(1, 2, 99);
        y.allow(1, false);
        c.is("one of three", y.missing(2), 10);
        y.setSlope(0, 2, 99);
        c.is("none of three", y.missing(2), 0);
        y.setSlope(2, 2, 0);
        c.is("one at once", y.missing(2), 0);
        y.setSlope(0, 2, 3);
        c.is("one at once, and one by the water", y.missing(2), 10);
        c.is("without slopes", Situations.bare().missing(99), 0);
        SnowGuns all = Check.loaded("P990000000s1000s1000w-9");
        all.set(1, 9999);
        c.is("all at once", all.missing(1), 0);
    }

    private static void missingHours(Check c) {
        c.says(28, "- `m`: number of hours, 1 to 99");
        c.says(28, "Throws `IllegalArgumentException` if m is out of range");
        c.range("missing", Situations::fresh, 1, 99, SnowGuns::missing);
        c.range("missing", Situations::used, 1, 99, SnowGuns::missing);
        c.range("missing", Situations::full, 1, 99, SnowGuns::missing);
        c.range("missing", Situations::bare, 1, 99, SnowGuns::missing);
        c.is("ready after 99 hours", oneAnHour(98).missing(99), 100);
        c.is("not after 98", oneAnHour(98).missing(98), 0);
        c.is("never after 1", oneAnHour(1).missing(1), 0);
        c.is("after 2", oneAnHour(1).missing(2), 10);
    }

    private static void coldestRange(Check c) {
        c.says(29, "Finds the coldest hours. - `n`: how many hours one after the other, 1 to 24");
        c.says(29, "Throws `IllegalArgumentException` if n is out of range");
        c.range("coldest", Situations::fresh, 1, 24, SnowGuns::coldest);
        c.range("coldest", Situations::used, 1, 24, SnowGuns::coldest);
        c.range("coldest", Situations::bare, 1, 24, SnowGuns::coldest);
        // 24 of 23 hours: one of them comes twice
        SnowGuns x = Check.loaded("P990999000s9999w" + "+0".repeat(22) + "-9");
        c.is("23 of 23 hours", x.coldest(23), 0);
        c.is("24 of 23 hours", x.coldest(24), 22);
        c.is("one hour", x.coldest(1), 22);
    }

    private static void coldestFirst(Check c) {
        c.says(29, "Returns the first one of the n hours one after the other, beginning from the present hour to 23 hours later,");
        for (int at = 0; at < 24; at++) {
            SnowGuns x = Check.loaded("P990999000s9999w" + "+0".repeat(at) + "-9" + "+0".repeat(23 - at));
            for (int n = 1; n <= 24; n++) {
                int want = Math.max(0, at - n + 1);
                c.is("coldest(" + n + ") with the cold in " + at + " hours", x.coldest(n), want);
            }
        }
    }

    private static void coldestRoundTheEnd(Check c) {
        c.says(29, "told as how many hours it is from now, among several the smallest number.");
        SnowGuns x = Check.loaded("P990999000s9999w-9+0+0-9-9");
        int[] one = {0, 2, 1, 0, 0, 0, 2};
        int[] three = {3, 2, 1, 0, 4, 3, 2};
        for (int hour = 0; hour < one.length; hour++) {
            c.is("coldest(1) in the hour " + hour, x.coldest(1), one[hour]);
            c.is("coldest(3) in the hour " + hour, x.coldest(3), three[hour]);
            x.pass(1);
        }
        for (int n = 1; n <= 24; n++) {
            c.is("all alike, coldest(" + n + ")", new SnowGuns().coldest(n), 0);
            c.is("one temperature, coldest(" + n + ")", Check.loaded("P990999000s9999w-9").coldest(n), 0);
            c.is("no cold, coldest(" + n + ")", Check.loaded("P990999000s9999w+0+9").coldest(n), 0);
        }
        // 22 hours from now the row begins anew; only there two cold hours meet
        SnowGuns y = Check.loaded("P990999000s9999w-4" + "+0".repeat(21) + "-4");
        c.is("the last hour and the first one", y.coldest(2), 22);
        y.pass(22);
        c.is("now", y.coldest(2), 0);
        y.pass(1);
        c.is("an hour ago", y.coldest(2), 22);
    }

    private static void coldestSums(Check c) {
        c.says(29, "whose colds add up to the most;");
        c.is("three against one and one", Check.loaded("P990999000s9999w-4-4+0-9+0+0").coldest(2), 2);
        c.is("two and two against three", Check.loaded("P990999000s9999w-9+0+0-5-5+0").coldest(2), 3);
        c.is("the colds, not the temperatures", Check.loaded("P990999000s9999w-4+0+0-2-2+0").coldest(2), 3);
        c.is("the same cold, not the colder", Check.loaded("P990999000s9999w-5+0-7+0").coldest(1), 0);
        c.is("colder by one step", Check.loaded("P990999000s9999w-7+0-8+0").coldest(1), 2);
        c.is("warmth takes nothing away", Check.loaded("P990999000s9999w-4+9-4+0+0-4+0").coldest(3), 0);
    }
}
