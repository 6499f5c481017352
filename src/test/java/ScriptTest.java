/** Promises 30 and 31: runScript, simulate. */
public final class ScriptTest {
    private static final int GOOD = SnowGuns.NONE;

    public static void main(String[] args) {
        Check c = new Check();
        hours(c);
        fillings(c);
        settings(c);
        guns(c);
        targets(c);
        questions(c);
        otherGroups(c);
        severalCommands(c);
        scriptRange(c);
        simulateIsActions(c);
        simulateRange(c);
        c.end("ScriptTest");
    }

    private static void script(Check c, SnowGuns x, int n, long script, int want) {
        c.is("runScript(" + n + ", " + script + ")", x.runScript(n, script), want);
    }

    private static void hours(Check c) {
        SnowGuns x = new SnowGuns();
        script(c, x, 1, 10000, 0);
        script(c, x, 1, 10001, GOOD);
        script(c, x, 1, 10099, GOOD);
        script(c, x, 1, 10101, 0);
        script(c, x, 1, 11001, 0);
        // 40 units of snow lie after 41 hours, the depth is 10 then
        script(c, x, 2, 10040_70010L, 1);
        script(c, x, 2, 10041_70010L, GOOD);
        script(c, x, 2, 10041_70011L, 1);
        script(c, x, 3, 10030_10011_80001L, GOOD);
        script(c, x, 3, 10030_10010_80001L, 2);
        c.wrongState("no action", x, x::undo);
    }

    private static void fillings(Check c) {
        SnowGuns x = Check.loaded("P990000000s1009g02w-9");
        x.set(1, 9999);
        script(c, x, 1, 20000, 0);
        script(c, x, 1, 20001, GOOD);
        script(c, x, 1, 20999, GOOD);
        script(c, x, 1, 21001, 0);
        script(c, x, 3, 20017_10002_80001L, 2);
        script(c, x, 3, 20018_10002_80001L, GOOD);
        script(c, x, 3, 20118_10002_80001L, GOOD);
        script(c, x, 2, 20008_90005L, GOOD);
        script(c, x, 2, 20009_90000L, GOOD);
        x.set(1, 0);
        script(c, x, 1, 20999, GOOD);
    }

    private static void settings(Check c) {
        SnowGuns x = Check.loaded("P200500010s4510g03w-9");
        script(c, x, 1, 30000, GOOD);
        script(c, x, 1, 30099, GOOD);
        script(c, x, 1, 30100, 0);
        script(c, x, 1, 31099, GOOD);
        script(c, x, 1, 31100, 0);
        script(c, x, 1, 32009, GOOD);
        script(c, x, 1, 32010, 0);
        script(c, x, 1, 33050, GOOD);
        script(c, x, 1, 33051, 0);
        script(c, x, 1, 34000, 0);
        script(c, x, 1, 39000, 0);
        script(c, x, 2, 30011_90004L, GOOD);
        script(c, x, 2, 30012_90000L, GOOD);
        script(c, x, 2, 31011_90005L, GOOD);
        script(c, x, 2, 31012_90000L, GOOD);
        // with the loss 50, 6 of 12 units become snow; without it all 12
        script(c, x, 3, 33050_10002_70001L, GOOD);
        script(c, x, 3, 33050_10002_70002L, 2);
        script(c, x, 3, 33000_10002_70003L, GOOD);
        SnowGuns y = Check.loaded("P990009000s4510g03w-9");
        script(c, y, 3, 31099_32003_90000L, GOOD);
        script(c, y, 3, 31099_32002_90005L, GOOD);
        script(c, y, 2, 31099_90005L, GOOD);
        SnowGuns z = Check.loaded("P990099000s4510g03w-9");
        script(c, z, 3, 31003_31099_90005L, GOOD);
        script(c, z, 3, 31003_32009_90005L, GOOD);
        SnowGuns w = Check.loaded("P990099000s4510g00w-9");
        script(c, w, 3, 31000_31099_90005L, GOOD);
        script(c, w, 2, 32009_90000L, GOOD);
    }

    private static void guns(Check c) {
        SnowGuns x = Check.loaded("P990999000s1099s1500g00g00w-9");
        script(c, x, 1, 40000, GOOD);
        script(c, x, 1, 41001, GOOD);
        script(c, x, 1, 42000, 0);
        script(c, x, 1, 40002, 0);
        script(c, x, 1, 40010, 0);
        script(c, x, 1, 40100, 0);
        script(c, x, 1, 49009, 0);
        script(c, x, 2, 40001_90003L, GOOD);
        script(c, x, 2, 40001_91000L, GOOD);
        x.pass(1);
        // brought to its own slope it is cold again, so that an hour later no snow lies
        script(c, x, 3, 51000_40000_90000L, GOOD);
        script(c, x, 2, 10001_70006L, GOOD);
        script(c, x, 3, 40000_10001_70003L, GOOD);
        script(c, x, 3, 40000_10001_70004L, 2);
        script(c, x, 1, 50000, GOOD);
        script(c, x, 1, 50001, GOOD);
        script(c, x, 1, 51001, GOOD);
        script(c, x, 1, 50002, 0);
        script(c, x, 1, 52001, 0);
        script(c, x, 1, 50010, 0);
        script(c, x, 1, 50100, 0);
        script(c, x, 2, 50000_90001L, GOOD);
        script(c, x, 2, 50000_91000L, GOOD);
        script(c, x, 3, 50000_50001_90000L, GOOD);
    }

    private static void targets(Check c) {
        SnowGuns x = Check.loaded("P990999000s1099s1500g00w-9");
        script(c, x, 2, 60000_80002L, GOOD);
        script(c, x, 2, 61099_80000L, GOOD);
        script(c, x, 2, 61001_80000L, GOOD);
        script(c, x, 1, 62000, 0);
        script(c, x, 1, 60100, 0);
        script(c, x, 1, 61199, 0);
        // the target 10 is met by 12 units, not by 9
        script(c, x, 3, 60010_10004_80001L, GOOD);
        script(c, x, 3, 60010_10004_80002L, 2);
        script(c, x, 3, 60010_10005_80002L, GOOD);
    }

    private static void questions(Check c) {
        SnowGuns x = Check.loaded("P990999000s2099s1500s1000g00w-9");
        x.pass(9);
        c.is("24 units on an area of 2", x.slope(0, 4), 12);
        script(c, x, 1, 70000, GOOD);
        script(c, x, 1, 70012, GOOD);
        script(c, x, 1, 70013, 0);
        script(c, x, 1, 71000, GOOD);
        script(c, x, 1, 71001, 0);
        script(c, x, 1, 73000, 0);
        script(c, x, 1, 70112, 0);
        script(c, x, 1, 80002, GOOD);
        script(c, x, 1, 80001, 0);
        script(c, x, 1, 80003, 0);
        script(c, x, 1, 80000, 0);
        script(c, x, 1, 80012, 0);
        script(c, x, 1, 80102, 0);
        script(c, x, 1, 81002, 0);
        script(c, x, 1, 90000, GOOD);
        for (int r = 1; r < 10; r++) {
            script(c, x, 1, 90000 + r, 0);
        }
        script(c, x, 1, 90010, 0);
        script(c, x, 1, 90100, 0);
        script(c, x, 1, 91000, 0);
        script(c, x, 1, 99009, 0);
        // whyNot looks into the hour, but lets none pass
        script(c, x, 3, 90000_90000_70012L, GOOD);
        script(c, x, 3, 90000_70013_90000L, 1);
    }

    private static void otherGroups(Check c) {
        SnowGuns x = new SnowGuns();
        script(c, x, 1, 0, 0);
        script(c, x, 1, 1, 0);
        script(c, x, 1, 9999, 0);
        script(c, x, 3, 0, 0);
        script(c, x, 2, 70000, 0);
        script(c, x, 2, 70000_00000L, 1);
        script(c, x, 2, 70000_01001L, 1);
    }

    private static void severalCommands(Check c) {
        SnowGuns x = new SnowGuns();
        script(c, x, 3, 70000_70000_70000L, GOOD);
        script(c, x, 3, 70000_70000_70001L, 2);
        script(c, x, 3, 70000_70001_70001L, 1);
        script(c, x, 3, 70001_70000_70000L, 0);
        script(c, x, 2, 70000_70001L, 1);
        // the first command is the highest group: after it the pump is 0 and 20 again
        script(c, x, 3, 30000_30020_90000L, GOOD);
        script(c, x, 3, 30020_30000_90000L, 2);
        script(c, x, 3, 30020_30000_90004L, GOOD);
        c.wrongState("no action", x, x::undo);
    }

    private static void scriptRange(Check c) {
        SnowGuns x = new SnowGuns();
        long most = 99999;
        for (int n = 1; n <= 3; n++) {
            int k = n;
            long m = most;
            script(c, x, k, m, 0);
            c.wrongArgument("more than " + 5 * k + " digits", x, () -> x.runScript(k, m + 1));
            c.wrongArgument("a negative script for " + k, x, () -> x.runScript(k, -1));
            c.wrongArgument("the greatest script for " + k, x, () -> x.runScript(k, Long.MAX_VALUE));
            c.wrongArgument("the least script for " + k, x, () -> x.runScript(k, Long.MIN_VALUE));
            most = most * 100000 + 99999;
        }
        for (int n : new int[] {-1, 0, 4, Integer.MIN_VALUE, Integer.MAX_VALUE}) {
            c.wrongArgument("runScript(" + n + ", 70000)", x, () -> x.runScript(n, 70000));
            c.wrongArgument("runScript(" + n + ", 0)", x, () -> x.runScript(n, 0));
        }
    }

    /** A round replaces x, may change the weather or fill, and lets an hour pass; here it is done by actions. */
    private static int rounds(SnowGuns x, long seed, int m) {
        long random = seed;
        for (int i = 0; i < m; i++) {
            random = random * 6364136223846793005L + 1442695040888963407L;
            int r = (int) (random >>> 33);
            if (r % 8 == 0) {
                x.setWet(r / 8 % x.about(6), r / 256 % 19 - 9);
            } else if (r % 8 == 1) {
                x.fill(1 + r / 8 % 100);
            }
            x.pass(1);
        }
        return 10 * x.account(4) + x.about(9);
    }

    private static void simulateIsActions(Check c) {
        String[] texts = {
            "P200500210s4510g01w-4-4-4-4", "P600060120s2305s1920s9102g03g13g11g20w-9-9+2",
            "P990000900s1001s1100g01g02w-9", "P990000000s9599s9530g00g00g10g10g00g00w-4",
        };
        long[] seeds = {0, 1, 2, 3, 42, -1, Long.MAX_VALUE, Long.MIN_VALUE, 1234567890123456789L};
        for (String text : texts) {
            for (long seed : seeds) {
                for (int m : new int[] {1, 2, 10, 50, 99}) {
                    SnowGuns x = Check.loaded(text);
                    x.pass(5);
                    // an empty pond shows each unit that comes by a filling
                    x.set(1, 0);
                    x.set(1, 9999);
                    String before = Check.seen(x);
                    int told = x.simulate(seed, m);
                    c.same("simulate changes nothing", Check.seen(x), before);
                    c.is(text + " simulate(" + seed + ", " + m + ")", told, rounds(x, seed, m));
                }
            }
        }
    }

    private static void simulateRange(Check c) {
        SnowGuns x = new SnowGuns();
        for (int m : new int[] {-1, 0, 100, Integer.MIN_VALUE, Integer.MAX_VALUE}) {
            c.wrongArgument("simulate(1, " + m + ")", x, () -> x.simulate(1, m));
        }
        x.simulate(1, 1);
        c.wrongState("no action", x, x::undo);
        SnowGuns y = Check.loaded("P200500210s4500w-4");
        c.is("one ready slope without snow", y.simulate(7, 3), 1);
        y.removeSlope(0);
        c.is("no slope", y.simulate(7, 3), 0);
    }
}
