import java.util.List;
import java.util.Map;
import java.util.TreeMap;
import java.util.function.Supplier;
import java.util.function.ToIntFunction;

/** Promise 30: runScript. */
final class ScriptEdges {
    private static final int GOOD = SnowGuns.NONE;
    private static final long GROUP = 100000;

    private ScriptEdges() {
    }

    static void run(Check c) {
        copy(c);
        highestGroupFirst(c);
        hours(c);
        fillings(c);
        settings(c);
        bringing(c);
        allowing(c);
        targets(c);
        depths(c);
        readyOnes(c);
        reasons(c);
        allGroups(c);
        sameAsTheMethods(c);
        decimals(c);
        commands(c);
        digits(c);
        firstThatFails(c);
    }

    private static void script(Check c, SnowGuns x, int n, long script, int want) {
        c.is("runScript(" + n + ", " + script + ")", x.runScript(n, script), want);
    }

    private static void copy(Check c) {
        c.says(30, "Runs a script on a copy of the state.");
        for (long script : new long[] {10099, 20999, 31000, 41001, 50001, 62000, 70000, 80001, 90001, 0}) {
            c.leavesNoTrace("runScript(1, " + script + ")", Situations::used, x -> x.runScript(1, script));
        }
        SnowGuns x = new SnowGuns();
        script(c, x, 2, 10041_80001L, GOOD);
        script(c, x, 1, 80001, 0);
        script(c, x, 2, 10041_80001L, GOOD);
    }

    private static void highestGroupFirst(Check c) {
        c.says(30, "A script has 1 to 3 commands; each is a group of five decimal digits d1 to d5, and the first command is the "
            + "highest group of the number (with zeros before it, if it has fewer digits).");
        SnowGuns x = new SnowGuns();
        script(c, x, 1, 30000, GOOD);
        script(c, x, 2, 30000_90004L, GOOD);
        script(c, x, 2, 90004_30000L, 0);
        script(c, x, 3, 30000_30001_90004L, GOOD);
        script(c, x, 3, 30000_30002_90000L, GOOD);
        script(c, x, 3, 30002_30000_90004L, GOOD);
        // with zeros before it, the first group is no command
        script(c, x, 2, 70000, 0);
        script(c, x, 3, 70000, 0);
        script(c, x, 3, 70000_70000L, 0);
        script(c, x, 1, 7000, 0);
        script(c, x, 2, 7000_70000L, 0);
        script(c, x, 3, 7_70000_70000L, 0);
    }

    private static void hours(Check c) {
        c.says(30, "1 0 0 x y: lets xy hours pass (01 to 99).");
        for (int xy = 1; xy <= 99; xy++) {
            SnowGuns x = Check.loaded("P990999000s1099g00w-4");
            script(c, x, 2, (10000 + xy) * GROUP + 70000 + xy - 1, GOOD);
            c.is("no more snow in " + xy, x.runScript(2, (10000 + xy) * GROUP + 70000 + xy), 1);
        }
        script(c, new SnowGuns(), 1, 10000, 0);
    }

    /** A pond of 0, and a gun that uses 9 units an hour. */
    private static SnowGuns empty() {
        SnowGuns x = Check.loaded("P990000000s9099g02w-9");
        x.set(1, 9999);
        return x;
    }

    private static void fillings(Check c) {
        c.says(30, "2 0 x y z: fills in xyz units (001 to 999).");
        script(c, empty(), 1, 20000, 0);
        script(c, empty(), 1, 20001, GOOD);
        script(c, empty(), 2, 20008_90005L, GOOD);
        script(c, empty(), 2, 20009_90000L, GOOD);
        script(c, empty(), 2, 20010_90000L, GOOD);
        script(c, empty(), 2, 20100_90000L, GOOD);
        script(c, empty(), 1, 20999, GOOD);
        // three guns use 27 units an hour, and make 12: 999 units are enough for 37 hours
        SnowGuns x = Check.loaded("P990000050s9099g02g02g02w-9");
        x.set(1, 9999);
        script(c, x, 3, 20999_10037_70048L, GOOD);
        script(c, x, 3, 20998_10037_70048L, 2);
        script(c, x, 3, 20999_10099_70049L, 2);
        SnowGuns full = Check.loaded("P990008000s9099g02w-9");
        script(c, full, 2, 20999_90005L, GOOD);
        full.set(1, 9);
        script(c, full, 2, 20001_90000L, GOOD);
    }

    private static void settings(Check c) {
        c.says(30, "3 w 0 x y: sets number w, as by set(), to xy.");
        int[] most = {99, 99, 9, 50};
        for (int w = 0; w <= 9; w++) {
            for (int xy = 0; xy <= 99; xy++) {
                int want = w < 4 && xy <= most[w] ? GOOD : 0;
                c.is("set(" + w + ", " + xy + ")", new SnowGuns().runScript(1, 30000 + 1000 * w + xy), want);
            }
        }
        SnowGuns x = Check.loaded("P990999000s9099g03w-9");
        script(c, x, 2, 30011_90004L, GOOD);
        script(c, x, 2, 30012_90000L, GOOD);
        script(c, x, 2, 31011_90005L, GOOD);
        script(c, x, 2, 31012_90000L, GOOD);
        script(c, x, 3, 31003_32008_90005L, GOOD);
        // the capacity becomes less: the water that is spilled does not come back
        script(c, x, 3, 31003_31099_90005L, GOOD);
        SnowGuns y = Check.loaded("P990003000s9099g03w-9");
        script(c, y, 3, 31099_32008_90005L, GOOD);
        script(c, y, 3, 31099_32009_90000L, GOOD);
        // 12 units of which 6 or none are lost
        script(c, Check.loaded("P990999010s1099g03w-9"), 3, 33050_10002_70006L, GOOD);
        script(c, Check.loaded("P990999010s1099g03w-9"), 3, 33050_10002_70007L, 2);
        script(c, Check.loaded("P990999010s1099g03w-9"), 3, 33000_10002_70012L, GOOD);
    }

    private static void bringing(Check c) {
        c.says(30, "4 g 0 0 s: brings gun g to slope s.");
        for (int g = 0; g <= 9; g++) {
            for (int s = 0; s <= 9; s++) {
                int want = g < 3 && s < 3 ? GOOD : 0;
                c.is("bring(" + g + ", " + s + ")", Situations.used().runScript(1, 40000 + 1000 * g + s), want);
                want = g < 8 && s < 6 ? GOOD : 0;
                c.is("bring(" + g + ", " + s + ") of all", Situations.full().runScript(1, 40000 + 1000 * g + s), want);
            }
        }
        SnowGuns x = Check.loaded("P990999000s1099s1099s1000g00w-9");
        x.pass(1);
        script(c, x, 2, 10001_70003L, GOOD);
        script(c, x, 3, 40000_10001_70001L, 2);
        script(c, x, 3, 40001_10002_71003L, GOOD);
        script(c, x, 3, 40001_10002_70001L, 2);
        script(c, x, 2, 40002_90003L, GOOD);
    }

    private static void allowing(Check c) {
        c.says(30, "5 g 0 0 a: allows gun g (a is 1), or not (a is 0).");
        for (int g = 0; g <= 9; g++) {
            for (int a = 0; a <= 9; a++) {
                int want = g < 3 && a < 2 ? GOOD : 0;
                c.is("allow(" + g + ", " + a + ")", Situations.used().runScript(1, 50000 + 1000 * g + a), want);
                want = g < 8 && a < 2 ? GOOD : 0;
                c.is("allow(" + g + ", " + a + ") of all", Situations.full().runScript(1, 50000 + 1000 * g + a), want);
            }
        }
        SnowGuns x = Check.loaded("P990999000s1099g00g00w-9");
        script(c, x, 2, 50000_90001L, GOOD);
        script(c, x, 2, 50000_91000L, GOOD);
        script(c, x, 2, 51000_91001L, GOOD);
        script(c, x, 3, 51000_51001_91000L, GOOD);
        x.allow(0, false);
        script(c, x, 2, 50001_90000L, GOOD);
    }

    private static void targets(Check c) {
        c.says(30, "6 s 0 x y: the target of slope s becomes xy.");
        for (int s = 0; s <= 9; s++) {
            for (int xy : new int[] {0, 1, 9, 10, 98, 99}) {
                int want = s < 3 ? GOOD : 0;
                c.is("target of " + s, Situations.used().runScript(1, 60000 + 1000 * s + xy), want);
            }
        }
        SnowGuns x = TermEdges.withSnow(1, 97);
        x.addSlope(1, 1, 1);
        for (int xy = 0; xy <= 99; xy++) {
            c.is("the target " + xy, x.runScript(2, (60000 + xy) * GROUP + 80001), xy <= 97 ? GOOD : 1);
        }
        script(c, x, 2, 61000_80001L, GOOD);
        script(c, x, 3, 61000_60000_80002L, GOOD);
    }

    private static void depths(Check c) {
        c.says(30, "7 s 0 x y: succeeds if the depth of slope s is at least xy.");
        for (int snow : new int[] {0, 1, 2, 17, 18, 97, 98}) {
            SnowGuns x = TermEdges.withSnow(1, snow);
            SnowGuns y = TermEdges.withSnow(9, snow);
            for (int xy = 0; xy <= 99; xy++) {
                c.is(snow + " units, the depth " + xy, x.runScript(1, 70000 + xy), xy <= snow ? GOOD : 0);
                c.is(snow + " units on 9, the depth " + xy, y.runScript(1, 70000 + xy), 9 * xy <= snow ? GOOD : 0);
            }
        }
        SnowGuns most = Check.loaded("P999999000s1099g03w-9");
        most.pass(20);
        c.is("a depth above 99", most.slope(0, 4), 108);
        script(c, most, 1, 70099, GOOD);
    }

    private static void readyOnes(Check c) {
        c.says(30, "8 0 0 0 k: succeeds if just k slopes are ready.");
        SnowGuns x = Check.loaded("P990999000s1001s1001s1001s1001s1001s1001w-9");
        for (int ready = 0; ready <= 6; ready++) {
            for (int k = 0; k <= 9; k++) {
                c.is(ready + " are ready, just " + k, x.runScript(1, 80000 + k), k == ready ? GOOD : 0);
            }
            if (ready < 6) {
                x.setSlope(ready, 2, 0);
            }
        }
        script(c, Situations.bare(), 1, 80000, GOOD);
        script(c, Situations.bare(), 1, 80001, 0);
    }

    private static void reasons(Check c) {
        c.says(30, "9 g 0 0 r: succeeds if whyNot(g) is r.");
        SnowGuns[] all = {
            Check.loaded("P990999000s4510g03w-9"), Check.loaded("P990999000s4510g03w-9"),
            Check.loaded("P990999000s4510g03w+0"), Check.loaded("P990999000s4500g03w-9"),
            Check.loaded("P110999000s4510g03w-9"), Check.loaded("P990011000s4510g03w-9"),
        };
        all[1].allow(0, false);
        for (int reason = 0; reason <= 5; reason++) {
            for (int r = 0; r <= 9; r++) {
                c.is("the reason " + reason + ", asked for " + r, all[reason].runScript(1, 90000 + r), r == reason ? GOOD : 0);
            }
        }
        // it looks into the next hour of the copy, but lets none pass there
        SnowGuns x = Check.loaded("P990999000s1003g00g00w-9");
        script(c, x, 1, 91000, GOOD);
        script(c, x, 2, 10001_91003L, GOOD);
        script(c, x, 3, 10001_90000_91003L, GOOD);
        script(c, x, 3, 91000_91000_91000L, GOOD);
        script(c, x, 3, 10001_91003_70000L, GOOD);
        script(c, x, 3, 10001_91003_70001L, 2);
    }

    /** Whether a single command succeeds, by what the readings of a like object tell. */
    private static boolean succeeds(SnowGuns x, String d, int[] whyNot) {
        int b = d.charAt(1) - '0';
        int e = d.charAt(4) - '0';
        int xy = Integer.parseInt(d.substring(3));
        boolean slope = b < x.about(4);
        boolean gun = b < x.about(5);
        return d.matches("100(0[1-9]|[1-9].)") || d.matches("20(00[1-9]|0[1-9].|[1-9]..)") || d.matches("3[01]0..")
            || d.matches("3200.") || d.matches("330([0-4].|50)") || d.matches("4.00.") && gun && e < x.about(4)
            || d.matches("5.00[01]") && gun || d.matches("6.0..") && slope
            || d.matches("7.0..") && slope && x.slope(b, 4) >= xy || d.matches("8000.") && x.about(9) == e
            || d.matches("9.00.") && gun && whyNot[b] == e;
    }

    private static void allGroups(Check c) {
        c.says(30, "The commands 1 to 6 fail if the method with this effect would throw an exception; commands with slopes or "
            + "guns that do not exist fail, and so does any other group (also one with another digit where a 0 is written).");
        List<Supplier<SnowGuns>> situations =
            List.of(Situations::fresh, Situations::used, Situations::full, Situations::bare);
        for (Supplier<SnowGuns> made : situations) {
            SnowGuns told = made.get();
            int[] whyNot = new int[told.about(5)];
            for (int g = 0; g < whyNot.length; g++) {
                whyNot[g] = told.whyNot(g);
            }
            SnowGuns x = made.get();
            for (int group = 0; group < GROUP; group++) {
                if (group % 100 == 0) {
                    x = made.get();
                    told = made.get();
                }
                String d = String.format("%05d", group);
                c.is("the group " + d, x.runScript(1, group), succeeds(told, d, whyNot) ? GOOD : 0);
            }
        }
    }

    /** Commands and what they do, for three slopes and three guns. */
    private static Map<Integer, ToIntFunction<SnowGuns>> changes() {
        Map<Integer, ToIntFunction<SnowGuns>> all = new TreeMap<>();
        for (int m : new int[] {1, 2, 3, 10, 99}) {
            all.put(10000 + m, x -> x.pass(m));
        }
        for (int units : new int[] {1, 2, 3, 10, 100, 999}) {
            all.put(20000 + units, x -> x.fill(units));
        }
        int[][] settings = {{0, 0}, {0, 5}, {0, 99}, {1, 0}, {1, 2}, {1, 99}, {2, 0}, {2, 9}, {3, 0}, {3, 50}};
        for (int[] w : settings) {
            all.put(30000 + 1000 * w[0] + w[1], x -> x.set(w[0], w[1]));
        }
        for (int g = 0; g < 3; g++) {
            int gun = g;
            for (int s = 0; s < 3; s++) {
                int slope = s;
                all.put(40000 + 1000 * g + s, x -> x.bring(gun, slope));
                all.put(60000 + 1000 * g + 4 * s, x -> x.setSlope(gun, 2, 4 * slope));
            }
            all.put(50000 + 1000 * g, x -> x.allow(gun, false));
            all.put(50001 + 1000 * g, x -> x.allow(gun, true));
        }
        return all;
    }

    /** What can be asked behind the commands: the depths up to 9, the ready slopes, the reasons. */
    private static void asked(Check c, String what, SnowGuns x, int n, long script, SnowGuns y) {
        for (int i = 0; i < 3; i++) {
            for (int v = 0; v <= 9; v++) {
                String question = what + ", slope or gun " + i + ", asked for " + v;
                c.is("the depth behind " + question, x.runScript(n, script * GROUP + 70000 + 1000 * i + v),
                    y.slope(i, 4) >= v ? GOOD : n - 1);
                c.is("the reason behind " + question, x.runScript(n, script * GROUP + 90000 + 1000 * i + v),
                    y.whyNot(i) == v ? GOOD : n - 1);
                c.is("the ready ones behind " + question, x.runScript(n, script * GROUP + 80000 + v),
                    y.about(9) == v ? GOOD : n - 1);
            }
        }
    }

    private static void sameAsTheMethods(Check c) {
        c.says(30, "The commands 1 to 6 fail if the method with this effect would throw an exception;");
        for (Map.Entry<Integer, ToIntFunction<SnowGuns>> first : changes().entrySet()) {
            SnowGuns one = Situations.used();
            first.getValue().applyAsInt(one);
            asked(c, "" + first.getKey(), Situations.used(), 2, first.getKey(), one);
            for (Map.Entry<Integer, ToIntFunction<SnowGuns>> second : changes().entrySet()) {
                SnowGuns two = Situations.used();
                first.getValue().applyAsInt(two);
                second.getValue().applyAsInt(two);
                long script = first.getKey() * GROUP + second.getKey();
                asked(c, "" + script, Situations.used(), 3, script, two);
            }
        }
    }

    private static void decimals(Check c) {
        c.says(30, "xy and xyz are decimal numbers.");
        SnowGuns x = Check.loaded("P990999000s1099g00w-4");
        script(c, x, 2, 10010_70009L, GOOD);
        script(c, x, 2, 10010_70010L, 1);
        script(c, x, 2, 10021_70020L, GOOD);
        script(c, x, 2, 10021_70021L, 1);
        SnowGuns y = Check.loaded("P990000000s1099g00w-4");
        y.set(1, 9999);
        script(c, y, 3, 20012_10099_70011L, GOOD);
        script(c, y, 3, 20012_10099_70012L, 2);
        script(c, y, 3, 20101_10099_70098L, GOOD);
        script(c, y, 3, 20090_10099_70089L, GOOD);
        script(c, y, 3, 20090_10099_70090L, 2);
    }

    private static void commands(Check c) {
        c.says(30, "- `n`: number of commands, 1 to 3");
        c.range("runScript(.., 70000)", Situations::fresh, 1, 3, (x, n) -> x.runScript(n, 70000));
        c.range("runScript(.., 0)", Situations::bare, 1, 3, (x, n) -> x.runScript(n, 0));
        c.range("runScript(.., 99999)", Situations::used, 1, 3, (x, n) -> x.runScript(n, 99999));
    }

    private static void digits(Check c) {
        c.says(30, "- `script`: the commands, a number of at most 5 * n digits (0 or more)");
        c.says(30, "Throws `IllegalArgumentException` if n is out of range, or if script is negative or has more than 5 * n "
            + "digits");
        long[] most = {99999, 99999_99999L, 99999_99999_99999L};
        for (int n = 1; n <= 3; n++) {
            int k = n;
            script(c, new SnowGuns(), k, 0, 0);
            script(c, new SnowGuns(), k, most[k - 1], 0);
            long[] wrong = {most[k - 1] + 1, most[k - 1] * 10, -1, -70000, -most[k - 1], Long.MAX_VALUE, Long.MIN_VALUE};
            for (long script : wrong) {
                c.refused("runScript(" + k + ", " + script + ")", Situations::used, IllegalArgumentException.class,
                    x -> x.runScript(k, script));
            }
        }
        c.refused("two commands for one", Situations::used, IllegalArgumentException.class, x -> x.runScript(1, 70000_70000L));
        c.refused("three commands for two", Situations::used, IllegalArgumentException.class,
            x -> x.runScript(2, 70000_70000_70000L));
        c.refused("four commands", Situations::used, IllegalArgumentException.class, x -> x.runScript(3, 1000_00000_00000_00000L));
        c.refused("none, and a wrong script", Situations::used, IllegalArgumentException.class, x -> x.runScript(0, -1));
    }

    private static void firstThatFails(Check c) {
        c.says(30, "Returns the index, from 0, of the first command that fails; NONE if all succeed.");
        long good = 70000;
        long bad = 70099;
        for (int failing = 0; failing < 8; failing++) {
            long first = (failing & 1) != 0 ? bad : good;
            long second = (failing & 2) != 0 ? bad : good;
            long third = (failing & 4) != 0 ? bad : good;
            int want = first == bad ? 0 : second == bad ? 1 : third == bad ? 2 : GOOD;
            script(c, new SnowGuns(), 3, (first * GROUP + second) * GROUP + third, want);
            if (failing < 4) {
                script(c, new SnowGuns(), 2, first * GROUP + second, first == bad ? 0 : second == bad ? 1 : GOOD);
            }
        }
        script(c, new SnowGuns(), 1, good, GOOD);
        script(c, new SnowGuns(), 1, bad, 0);
        script(c, Situations.bare(), 3, 80000_10099_80000L, GOOD);
        script(c, Situations.bare(), 3, 80000_10099_70000L, 2);
    }
}
