/** The terms: slopes, guns, water, the weather and the cold. */
final class TermEdges {
    private TermEdges() {
    }

    static void run(Check c) {
        words(c);
        manyCalls(c);
        sixSlopes(c);
        areas(c);
        ranks(c);
        targets(c);
        snow(c);
        depths(c);
        ready(c);
        eightGuns(c);
        nozzles(c);
        allowedAtFirst(c);
        coldAtFirst(c);
        pump(c);
        pond(c);
        inflow(c);
        loss(c);
        temperatures(c);
        entriesOfHours(c);
        colds(c);
        newObject(c);
        uses(c);
        losses(c);
        none(c);
    }

    /** What tells of the rest, or heads it, and names no boundary of its own. */
    private static void words(Check c) {
        String[] passages = {
            "Snowmaking for slopes: wet-bulb temperatures hour by hour, guns with nozzles that start by steps of cold, a pump and "
                + "a pond that share the water by the needs of slopes, snow that is made and melts, meltwater that comes back, "
                + "fillings of the pond, a book of slopes that became ready.",
            "It keeps the account of all water, tells why a gun does not run, forecasts, and finds the gun that would "
                + "help most, the water that is missing and the best hours. Changes can be undone.",
            "SLOPES, GUNS, WATER", "All water and snow is told in whole units (snow as the water in it).", "AN HOUR",
            "THE BOOK", "TEXT", "ACTIONS AND UNDO", "EXCEPTIONS", "The constants:",
            "Ahead of the calls `append`, `clearText`, `errorPosition`, `load` the interface says: ---- text.",
            "Ahead of the calls `about`, `slope`, `gun`, `account`, `book`, `wet` the interface says: ---- what there is.",
            "Ahead of the calls `pass`, `set`, `fill`, `setWet`, `setSlope`, `addSlope`, `removeSlope`, `addGun`, `bring`, "
                + "`allow`, `undo` the interface says: ---- actions.",
            "Ahead of the calls `ahead`, `readyAfter`, `bestPlace`, `missing`, `coldest` the interface says: ---- forecasts.",
            "Ahead of the calls `runScript`, `simulate` the interface says: ---- scripts, simulations.",
            "Ahead of the calls `save`, `restore` the interface says: ---- save slots.",
        };
        for (String passage : passages) {
            c.says(0, passage);
        }
    }

    private static void manyCalls(Check c) {
        c.says(0, "An object is used for at most 512 calls after it has been made; what later calls answer is free.");
        SnowGuns x = new SnowGuns();
        for (int i = 1; i <= 511; i++) {
            x.pass(99);
        }
        c.is("the 512th call: the hour", x.about(8), 511 * 99);
        SnowGuns y = new SnowGuns();
        y.set(1, 9999);
        for (int i = 0; i < 170; i++) {
            y.set(1, 0);
            y.set(1, 9999);
            c.is("an empty pond is filled", y.fill(9999), 9999);
        }
        c.is("the 512th call: what came", y.account(0), 500 + 170 * 9999);
        SnowGuns z = Check.loaded("P999999900s9099g03w-9-9-9+9");
        for (int i = 0; i < 480; i++) {
            z.pass(99);
        }
        c.is("the snow that the gun made, 24 in 4 hours", z.gun(0, 4), 480 * 99 / 4 * 24);
        c.is("all of it melted", z.account(3), 480 * 99 / 4 * 24);
    }

    /** So many units of snow lie on the only slope, whose target is 99; the next hour brings one more. */
    static SnowGuns withSnow(int area, int units) {
        SnowGuns x = Check.loaded("P990999000s" + area + "599g00w-4");
        for (int hours = units + 1; hours > 0; hours -= 99) {
            x.pass(Math.min(hours, 99));
        }
        return x;
    }

    private static void sixSlopes(Check c) {
        c.says(0, "There are at most 6 slopes, numbered from 0;");
        SnowGuns x = new SnowGuns();
        for (int n = 1; n < 6; n++) {
            c.is("a slope more", x.addSlope(9 - n, 1, 1), n);
            c.is("the slopes then", x.about(4), n + 1);
            c.is("its area", x.slope(n, 0), 9 - n);
        }
        c.refused("a seventh slope", Situations::full, IllegalStateException.class, y -> y.addSlope(1, 1, 1));
        c.numbers("slopes of six", Situations::full, 6, (y, s) -> y.slope(s, 0));
        c.numbers("slopes of one", Situations::fresh, 1, (y, s) -> y.slope(s, 0));
    }

    private static void areas(Check c) {
        c.says(0, "a slope has an area from 1 to 9,");
        c.says(17, "- `area`: 1 to 9");
        for (int area = 1; area <= 9; area++) {
            SnowGuns x = new SnowGuns();
            x.addSlope(area, 5, 5);
            c.is("the area " + area, x.slope(1, 0), area);
            c.is("the area of a text", Check.loaded("P200500210s" + area + "510w-4").slope(0, 0), area);
        }
        c.range("the area of addSlope", Situations::used, 1, 9, (x, v) -> x.addSlope(v, 5, 5));
        c.is("the area 0 of a text", Check.written("P200500210s0510w-4").errorPosition(), 11);
    }

    private static void ranks(Check c) {
        c.says(0, "a rank from 0 to 9,");
        c.says(17, "- `rank`: 0 to 9");
        for (int rank = 0; rank <= 9; rank++) {
            SnowGuns x = new SnowGuns();
            x.addSlope(5, rank, 5);
            c.is("the rank " + rank, x.slope(1, 1), rank);
            c.is("the rank of a text", Check.loaded("P200500210s4" + rank + "10w-4").slope(0, 1), rank);
        }
        c.range("the rank of addSlope", Situations::used, 0, 9, (x, v) -> x.addSlope(5, v, 5));
    }

    private static void targets(Check c) {
        c.says(0, "a target from 0 to 99,");
        c.says(17, "- `target`: 0 to 99");
        for (int target = 0; target <= 99; target++) {
            SnowGuns x = new SnowGuns();
            x.addSlope(5, 5, target);
            c.is("the target " + target, x.slope(1, 2), target);
            String text = "P200500210s45" + target / 10 + target % 10 + "w-4";
            c.is("the target of a text", Check.loaded(text).slope(0, 2), target);
        }
        c.range("the target of addSlope", Situations::used, 0, 99, (x, v) -> x.addSlope(5, 5, v));
    }

    /** A gun stops at 99 * 9 = 891 units, so that no more than 890 + 12 can come about. */
    private static void snow(Check c) {
        c.says(0, "and snow from 0 to 999, at first 0.");
        SnowGuns x = Check.loaded("P999999000s9099g03g01w-9");
        x.addSlope(1, 0, 0);
        c.is("of a loaded slope", x.slope(0, 3), 0);
        c.is("of a slope that was added", x.slope(1, 3), 0);
        c.is("of a new object's slope", new SnowGuns().slope(0, 3), 0);
        x.allow(1, false);
        c.is("74 hours of 12 units", x.pass(75), 888);
        x.allow(0, false);
        x.allow(1, true);
        x.setWet(0, -4);
        c.is("an hour of 2 units", x.pass(2), 2);
        c.is("just not ready", x.slope(0, 5), 0);
        x.allow(1, false);
        x.allow(0, true);
        x.setWet(0, -9);
        c.is("12 units more", x.pass(9), 12);
        c.is("the most snow that can lie", x.slope(0, 3), 902);
        c.is("nothing above it was lost", x.account(1), 12 + 2 + 12);
        x.setWet(0, 9);
        x.pass(11);
        c.is("the last but one of its warm hours", x.slope(0, 3), 902 - 11 * 81);
        x.pass(1);
        c.is("none is left", x.slope(0, 3), 0);
        x.pass(1);
        c.is("never less than none", x.slope(0, 3), 0);
    }

    private static void depths(Check c) {
        c.says(0, "Its depth is snow / area, rounded down.");
        for (int area = 1; area <= 9; area++) {
            c.is("without snow, area " + area, withSnow(area, 0).slope(0, 4), 0);
            for (int depth = 1; depth <= 3; depth++) {
                String what = ", area " + area + ", depth " + depth;
                c.is("a unit less" + what, withSnow(area, area * depth - 1).slope(0, 4), depth - 1);
                c.is("just so much" + what, withSnow(area, area * depth).slope(0, 4), depth);
            }
        }
    }

    private static void ready(Check c) {
        c.says(0, "It is ready if its depth is at least the target.");
        for (int area = 1; area <= 9; area++) {
            for (int target = 1; target <= 3; target++) {
                for (int more = -1; more <= area; more++) {
                    SnowGuns x = withSnow(area, area * target + more);
                    x.setSlope(0, 2, target);
                    String what = more + " units above the target " + target + " on the area " + area;
                    c.is(what, x.slope(0, 5), more < 0 ? 0 : 1);
                    c.is(what + ", the number of ready slopes", x.about(9), more < 0 ? 0 : 1);
                }
            }
        }
        SnowGuns x = withSnow(1, 98);
        c.is("the depth 98 against the target 99", x.slope(0, 5), 0);
        x.pass(1);
        c.is("the depth 99 against the target 99", x.slope(0, 5), 1);
        c.is("no snow against the target 0", Check.loaded("P200500210s9500w-4").slope(0, 5), 1);
        c.is("no snow against the target 1", Check.loaded("P200500210s1501w-4").slope(0, 5), 0);
    }

    private static void eightGuns(Check c) {
        c.says(0, "There are at most 8 guns, numbered from 0;");
        SnowGuns x = new SnowGuns();
        for (int n = 1; n < 8; n++) {
            c.is("a gun more", x.addGun(0, n % 4), n);
            c.is("the guns then", x.about(5), n + 1);
            c.is("its nozzle", x.gun(n, 1), n % 4);
        }
        c.refused("a ninth gun", Situations::full, IllegalStateException.class, y -> y.addGun(0, 1));
        c.numbers("guns of eight", Situations::full, 8, (y, g) -> y.gun(g, 0));
        c.numbers("guns of one", Situations::fresh, 1, (y, g) -> y.gun(g, 0));
        c.noSuch("guns of none", Situations::bare, 0, (y, g) -> y.gun(g, 0));
    }

    private static void nozzles(Check c) {
        c.says(0, "a gun stands at a slope and has a nozzle from 0 to 3,");
        c.says(19, "- `nozzle`: 0 to 3");
        for (int nozzle = 0; nozzle <= 3; nozzle++) {
            SnowGuns x = new SnowGuns();
            x.addSlope(1, 1, 1);
            x.addGun(1, nozzle);
            c.is("the nozzle " + nozzle, x.gun(1, 1), nozzle);
            c.is("its slope", x.gun(1, 0), 1);
            SnowGuns y = Check.loaded("P200500210s4510s1111g1" + nozzle + "w-4");
            c.is("the nozzle of a text", y.gun(0, 1), nozzle);
            c.is("the slope of a text", y.gun(0, 0), 1);
        }
        c.range("the nozzle of addGun", Situations::used, 0, 3, (x, v) -> x.addGun(2, v));
        c.is("the nozzle 4 of a text", Check.written("P200500210s4510g04w-4").errorPosition(), 17);
    }

    private static void allowedAtFirst(Check c) {
        c.says(0, "is allowed or not (at first it is),");
        SnowGuns x = Check.loaded("P990999000s9999g00w-9");
        x.addGun(0, 0);
        c.is("a new object's gun", new SnowGuns().gun(0, 2), 1);
        c.is("a loaded gun", x.gun(0, 2), 1);
        c.is("a gun that was added", x.gun(1, 2), 1);
        x.allow(1, false);
        c.is("a gun that is not allowed", x.gun(1, 2), 0);
        c.is("the other one", x.gun(0, 2), 1);
    }

    private static void coldAtFirst(Check c) {
        c.says(0, "and is cold (0, at first), warming (1) or running (2).");
        SnowGuns x = Check.loaded("P990999000s9999g00w-9");
        x.addGun(0, 0);
        c.is("a new object's gun", new SnowGuns().gun(0, 3), 0);
        for (int stage = 0; stage <= 2; stage++) {
            c.is("the loaded gun after " + stage + " hours", x.gun(0, 3), stage);
            c.is("the one that was added", x.gun(1, 3), stage);
            x.pass(1);
        }
        c.is("it goes on running", x.gun(0, 3), 2);
    }

    private static void pump(Check c) {
        c.says(0, "There are a pump (0), 0 to 99 units an hour, at first 20;");
        c.is("at first", new SnowGuns().about(0), 20);
        settings(c, 0, 99);
        c.is("the least of a text", Check.loaded("P000500210s4510w-4").about(0), 0);
        c.is("the most of a text", Check.loaded("P990500210s4510w-4").about(0), 99);
    }

    private static void pond(Check c) {
        c.says(0, "a pond with a capacity (1), 0 to 9999, at first 500, and water in it, at first 500;");
        c.is("the capacity at first", new SnowGuns().about(1), 500);
        c.is("the water at first", new SnowGuns().about(7), 500);
        settings(c, 1, 9999);
        SnowGuns least = Check.loaded("P200000210s4510w-4");
        c.is("the least capacity of a text", least.about(1), 0);
        c.is("no water", least.about(7), 0);
        c.is("nor by a filling", least.fill(9999), 0);
        SnowGuns most = Check.loaded("P209999210s4510w-4");
        c.is("the most of a text", most.about(1), 9999);
        c.is("all the water", most.about(7), 9999);
        c.is("no more by a filling", most.fill(9999), 0);
        most.pass(9);
        c.is("nor by the inflow", most.about(7), 9999);
    }

    private static void inflow(Check c) {
        c.says(0, "an inflow (2), 0 to 9 units an hour, at first 2;");
        c.is("at first", new SnowGuns().about(2), 2);
        settings(c, 2, 9);
        c.is("the least of a text", Check.loaded("P200500010s4510w-4").about(2), 0);
        c.is("the most of a text", Check.loaded("P200500910s4510w-4").about(2), 9);
    }

    private static void loss(Check c) {
        c.says(0, "and a loss (3), 0 to 50 percent, at first 10.");
        c.is("at first", new SnowGuns().about(3), 10);
        settings(c, 3, 50);
        c.is("the least of a text", Check.loaded("P200500200s4510w-4").about(3), 0);
        c.is("the most of a text", Check.loaded("P200500250s4510w-4").about(3), 50);
        c.is("51 in a text", Check.written("P200500251s4510w-4").errorPosition(), 9);
    }

    private static void settings(Check c, int what, int most) {
        c.range("set(" + what + ", ..)", Situations::used, 0, most, (x, v) -> x.set(what, v));
        for (int v : new int[] {0, 1, most - 1, most}) {
            SnowGuns x = new SnowGuns();
            x.set(what, v);
            c.is("set(" + what + ", " + v + ")", x.about(what), v);
        }
    }

    private static void temperatures(Check c) {
        c.says(0, "The weather is a row of W wet-bulb temperatures, 1 to 24 numbers from -9 to 9 (at first 24 times -4);");
        c.is("W at first", new SnowGuns().about(6), 24);
        for (int h = 0; h < 24; h++) {
            c.is("the temperature of the hour " + h + " at first", new SnowGuns().wet(h), -4);
        }
        for (int count = 1; count <= 24; count++) {
            c.is("W", Check.loaded("P200500210s4510w" + "-4".repeat(count)).about(6), count);
        }
        c.is("no temperature", Check.written("P200500210s4510w").errorPosition(), 16);
        c.is("25 temperatures", Check.written("P200500210s4510w" + "-4".repeat(25)).errorPosition(), 16 + 48);
        for (int v = -9; v <= 9; v++) {
            SnowGuns x = new SnowGuns();
            x.setWet(23, v);
            c.is("the temperature " + v, x.wet(23), v);
            String sign = v < 0 ? "-" : "+";
            c.is("in a text", Check.loaded("P200500210s4510w" + sign + Math.abs(v)).wet(0), v);
        }
        c.range("setWet", Situations::fresh, -9, 9, (x, v) -> x.setWet(0, v));
    }

    private static void entriesOfHours(Check c) {
        c.says(0, "that of hour h is the entry h % W.");
        int[] row = {-9, -5, -2, 3, 8};
        SnowGuns x = Check.loaded("P200500210s4510w-9-5-2+3+8");
        for (int h = 0; h < 16; h++) {
            c.is("wet(" + h + ") of five", x.wet(h), row[h % 5]);
            c.is("the temperature of the present hour " + h, x.about(12), row[h % 5]);
            x.pass(1);
        }
        SnowGuns one = Check.loaded("P200500210s4510w+7");
        SnowGuns most = Check.loaded("P200500210s4510w" + "+1".repeat(23) + "-8");
        for (int h = 0; h < 50; h++) {
            c.is("the hour " + h + " of one", one.wet(h), 7);
            c.is("the hour " + h + " of 24", most.wet(h), h == 23 || h == 47 ? -8 : 1);
            c.is("the present hour " + h + " of 24", most.about(12), h == 23 || h == 47 ? -8 : 1);
            most.pass(1);
        }
        afterTenThousandHours(c);
    }

    /** The present hour may be above the hours that wet takes. */
    private static void afterTenThousandHours(Check c) {
        SnowGuns x = Check.loaded("P200500210s4510w+1+2+3+4+5+6+7");
        for (int i = 0; i < 101; i++) {
            x.pass(99);
        }
        c.is("the hour", x.about(8), 9999);
        c.is("9999 = 7 * 1428 + 3", x.about(12), 4);
        x.pass(1);
        c.is("the hour after it", x.about(8), 10000);
        c.is("its temperature", x.about(12), 5);
        x.pass(3);
        c.is("round the end", x.about(12), 1);
    }

    private static void colds(Check c) {
        c.says(0, "The cold of a temperature is 0 above -2, 1 from -4 to -2, 2 from -7 to -5, and 3 below.");
        int[] colds = {3, 3, 2, 2, 2, 1, 1, 1, 0, 0, 0, 0, 0, 0, 0, 0, 0, 0, 0};
        for (int v = -9; v <= 9; v++) {
            SnowGuns x = Check.loaded("P990999000s9999g00w+0");
            x.setWet(0, v);
            c.is("the cold of " + v, x.about(13), colds[v + 9]);
            x.pass(1);
            c.is("what a small gun uses at " + v, 999 - x.about(7), colds[v + 9]);
        }
    }

    private static void newObject(Check c) {
        c.says(0, "A new object has one slope with the area 4, the rank 5 and the target 10, and one gun at it with the "
            + "nozzle 1; the hour is 0.");
        c.says(1, "Creates the slope and the gun that are described above.");
        SnowGuns x = new SnowGuns();
        c.is("slopes", x.about(4), 1);
        c.is("area", x.slope(0, 0), 4);
        c.is("rank", x.slope(0, 1), 5);
        c.is("target", x.slope(0, 2), 10);
        c.is("guns", x.about(5), 1);
        c.is("its slope", x.gun(0, 0), 0);
        c.is("its nozzle", x.gun(0, 1), 1);
        c.is("the hour", x.about(8), 0);
        c.is("what came", x.account(0), 500);
        for (int what = 1; what <= 5; what++) {
            c.is("account(" + what + ")", x.account(what), 0);
        }
        c.is("entries in the book", x.about(11), 0);
        c.is("the text", x.clearText(), 0);
    }

    private static void uses(Check c) {
        c.says(0, "A gun with the nozzle k uses (k + 1) * cold units of water in an hour;");
        int[][] uses = {{0, 1, 2, 3}, {0, 2, 4, 6}, {0, 3, 6, 9}, {0, 4, 8, 12}};
        String[] colds = {"+9", "-4", "-5", "-9"};
        for (int nozzle = 0; nozzle <= 3; nozzle++) {
            for (int cold = 0; cold <= 3; cold++) {
                SnowGuns x = Check.loaded("P990999050s9999g0" + nozzle + "w" + colds[cold]);
                String what = "the nozzle " + nozzle + " at the cold " + cold;
                x.pass(1);
                c.is(what + " when it warms", 999 - x.about(7), uses[nozzle][cold]);
                x.pass(1);
                c.is(what + " when it runs", 999 - x.about(7), 2 * uses[nozzle][cold]);
            }
        }
    }

    private static void losses(Check c) {
        c.says(0, "of these, use * loss / 100, rounded up, are lost in the air, the rest becomes snow on its slope.");
        String[] colds = {"", "-4", "-5", "-9"};
        for (int nozzle = 0; nozzle <= 3; nozzle++) {
            for (int cold = 1; cold <= 3; cold++) {
                int use = (nozzle + 1) * cold;
                int lost = 0;
                for (int loss = 0; loss <= 50; loss++) {
                    lost += lost * 100 < use * loss ? 1 : 0;
                    SnowGuns x = Check.loaded("P9909990" + loss / 10 + loss % 10 + "s9999g0" + nozzle + "w" + colds[cold]);
                    String what = "of " + use + " units with a loss of " + loss;
                    c.is("the snow " + what, x.pass(2), use - lost);
                    c.is("on the slope " + what, x.slope(0, 3), use - lost);
                    c.is("in the air " + what, x.account(1), use + lost);
                }
            }
        }
        c.is("half of one unit is lost whole", Check.loaded("P990999050s9999g00w-4").pass(2), 0);
        c.is("one percent of 12 units is a unit", Check.loaded("P990999001s9999g03w-9").pass(2), 11);
        c.is("25 percent of 12 units are just 3", Check.loaded("P990999025s9999g03w-9").pass(2), 9);
        c.is("26 percent of 12 units are 4", Check.loaded("P990999026s9999g03w-9").pass(2), 8);
    }

    private static void none(Check c) {
        c.says(0, "`NONE = -9999`: There is no such result.");
        c.is("NONE", SnowGuns.NONE, -9999);
        c.is("no entry in the book", new SnowGuns().book(0, 0), -9999);
        c.is("a right text", Check.written("P200500210s4510w-4").errorPosition(), -9999);
        c.is("no gun in the order", new SnowGuns().order(1), -9999);
        c.is("never ready", Check.loaded("P200500210s4510w-4").readyAfter(0), -9999);
        c.is("no place", Situations.bare().bestPlace(0, 1), -9999);
        c.is("no command fails", new SnowGuns().runScript(1, 70000), -9999);
    }
}
