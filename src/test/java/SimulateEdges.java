import java.util.function.LongPredicate;

/** Promise 31: simulate. */
final class SimulateEdges {
    private SimulateEdges() {
    }

    static void run(Check c) {
        copy(c);
        numbers(c);
        seeds(c);
        leastAndGreatest(c);
        temperatures(c);
        entries(c);
        fillings(c);
        nothingElse(c);
        rounds(c);
        answer(c);
    }

    /** The number r of a round, 1 for the first one. */
    private static int number(long seed, int round) {
        long x = seed;
        for (int i = 0; i < round; i++) {
            x = x * 6364136223846793005L + 1442695040888963407L;
        }
        return (int) (x >>> 33);
    }

    private static long find(LongPredicate wanted) {
        long seed = 0;
        while (!wanted.test(seed)) {
            seed++;
        }
        return seed;
    }

    private static void copy(Check c) {
        c.says(31, "Simulates m rounds on a copy of the state.");
        for (long seed : new long[] {0, 1, 2, -1, Long.MIN_VALUE, Long.MAX_VALUE}) {
            c.leavesNoTrace("simulate(" + seed + ", 99)", Situations::used, x -> x.simulate(seed, 99));
        }
    }

    /** The numbers of the first three rounds, as a program with numbers of any size tells them. */
    private static void numbers(Check c) {
        c.says(31, "Each round first replaces x by x * 6364136223846793005L + 1442695040888963407L (with long overflow), and r = "
            + "(int) (x >>> 33) is computed.");
        long[] seeds = {0, 1, -1, Long.MAX_VALUE, Long.MIN_VALUE};
        int[][] want = {{167951807, 218396424, 1299921937}, {908834774, 1093944153, 1392341196},
            {1574552488, 1490332343, 1207502677}, {500810664, 416590519, 133760853}, {1241693631, 1292138248, 226180113}};
        for (int i = 0; i < seeds.length; i++) {
            for (int round = 1; round <= 3; round++) {
                c.is("r of the seed " + seeds[i] + " in round " + round, number(seeds[i], round), want[i][round - 1]);
            }
        }
        // 1574552488 % 8 is 0: the only temperature becomes 1574552488 / 256 % 19 - 9 = 1
        SnowGuns x = TermEdges.withSnow(1, 50);
        c.is("a unit less by the seed -1", x.simulate(-1, 1), 490);
        // 500810664 % 8 is 0: it becomes 500810664 / 256 % 19 - 9 = 4
        c.is("4 units less by the greatest seed", x.simulate(Long.MAX_VALUE, 1), 460);
        // 1241693631 % 8 is 7
        c.is("one unit by the least seed", x.simulate(Long.MIN_VALUE, 1), 510);
    }

    /** The rounds, done by actions. */
    private static int done(SnowGuns x, long seed, int m) {
        for (int round = 1; round <= m; round++) {
            int r = number(seed, round);
            if (r % 8 == 0) {
                x.setWet(r / 8 % x.about(6), r / 256 % 19 - 9);
            } else if (r % 8 == 1) {
                x.fill(1 + r / 8 % 100);
            }
            x.pass(1);
        }
        return 10 * x.account(4) + x.about(9);
    }

    private static void seeds(Check c) {
        c.says(31, "A long x starts as the seed.");
        c.says(31, "- `seed`: any long");
        long[] seeds = {0, 1, 2, 3, -1, -2, Integer.MAX_VALUE, Integer.MIN_VALUE, 1L << 32, -1L << 32, Long.MAX_VALUE,
            Long.MAX_VALUE - 1, Long.MIN_VALUE, Long.MIN_VALUE + 1, 0x5555555555555555L, 0xAAAAAAAAAAAAAAAAL};
        for (long seed : seeds) {
            for (int m : new int[] {1, 2, 50}) {
                c.is("simulate(" + seed + ", " + m + ")", Situations.used().simulate(seed, m), done(Situations.used(), seed, m));
                c.is("simulate(" + seed + ", " + m + ") of all", Situations.full().simulate(seed, m),
                    done(Situations.full(), seed, m));
            }
        }
    }

    /** The seed whose first x has this number r, and these lower 33 bits. */
    private static long seedOf(int r, long lower) {
        long factor = 6364136223846793005L;
        long inverse = factor;
        for (int i = 0; i < 6; i++) {
            inverse *= 2 - factor * inverse;
        }
        return (((long) r << 33 | lower) - 1442695040888963407L) * inverse;
    }

    /** Numbers r of 31 bits: 0 and 1, 2147483647, and the greatest ones that are 0 or 1 by 8. */
    private static void leastAndGreatest(Check c) {
        c.says(31, "and r = (int) (x >>> 33) is computed.");
        for (long lower : new long[] {0, 1, (1L << 33) - 1}) {
            for (int r : new int[] {0, 1, 7, 8, 9, 2147483640, 2147483641, Integer.MAX_VALUE}) {
                c.is("r of the seed for " + r, number(seedOf(r, lower), 1), r);
            }
            SnowGuns x = TermEdges.withSnow(1, 50);
            c.is("the temperature -9 by 0", x.simulate(seedOf(0, lower), 1), 530);
            c.is("the temperature -9 by 8", x.simulate(seedOf(8, lower), 1), 530);
            c.is("12 - 9 by 2147483640", x.simulate(seedOf(2147483640, lower), 1), 470);
            c.is("nothing by 7", x.simulate(seedOf(7, lower), 1), 510);
            c.is("nothing by 2147483647", x.simulate(seedOf(Integer.MAX_VALUE, lower), 1), 510);
            c.is("fill(1) by 1", eightRun().simulate(seedOf(1, lower), 1), 90);
            c.is("fill(2) by 9", eightRun().simulate(seedOf(9, lower), 1), 100);
            c.is("fill(56) by 2147483641, of which 8 are used", eightRun().simulate(seedOf(2147483641, lower), 1), 160);
            c.is("the entry 0 of 24 by 0", atEntry(24, 0, 1).simulate(seedOf(0, lower), 1), 500);
            c.is("the entry 15 of 24 by 2147483640", atEntry(24, 15, 1).simulate(seedOf(2147483640, lower), 1), 470);
            c.is("no other one", atEntry(24, 16, 1).simulate(seedOf(2147483640, lower), 1), 490);
        }
    }

    private static void temperatures(Check c) {
        c.says(31, "If r % 8 is 0, the entry r / 8 % W of the weather becomes r / 256 % 19 - 9;");
        int[] colds = {3, 3, 2, 2, 2, 1, 1, 1, 0, 0};
        for (int v = -9; v <= 9; v++) {
            int wet = v;
            long seed = find(s -> number(s, 1) % 8 == 0 && number(s, 1) / 256 % 19 - 9 == wet);
            int snow = 50 + (v > 0 ? -v : colds[v + 9]);
            c.is("the temperature " + v, TermEdges.withSnow(1, 50).simulate(seed, 1), 10 * snow);
        }
    }

    /** 50 units of snow on an area of 1, no gun that is allowed, so many hours alike; the present one is the entry's. */
    private static SnowGuns atEntry(int count, int entry, int wet) {
        SnowGuns x = Check.loaded("P990999000s1099g00w" + "-4".repeat(count));
        x.pass(51);
        x.allow(0, false);
        while (x.about(8) % count != entry) {
            x.pass(1);
        }
        for (int i = 0; i < count; i++) {
            x.setWet(i, wet);
        }
        return x;
    }

    private static void entries(Check c) {
        c.says(31, "the entry r / 8 % W of the weather becomes r / 256 % 19 - 9;");
        for (int count : new int[] {1, 2, 3, 5, 7, 8, 23, 24}) {
            for (int entry = 0; entry < count; entry++) {
                int e = entry;
                long here = find(s -> number(s, 1) % 8 == 0 && number(s, 1) / 8 % count == e && number(s, 1) / 256 % 19 > 9);
                int degrees = number(here, 1) / 256 % 19 - 9;
                String what = "the entry " + entry + " of " + count;
                c.is("now " + what, atEntry(count, entry, 0).simulate(here, 1), 500 - 10 * degrees);
                if (count > 1) {
                    c.is("an hour before " + what, atEntry(count, (entry + count - 1) % count, 0).simulate(here, 1), 500);
                    c.is("an hour behind " + what, atEntry(count, (entry + 1) % count, 0).simulate(here, 1), 500);
                }
            }
        }
    }

    /** Eight guns run, each with a unit an hour; the pond is empty, so that the snow tells how much was filled in. */
    private static SnowGuns eightRun() {
        SnowGuns x = Check.loaded("P990999000s9999" + "g00".repeat(8) + "w-4");
        x.pass(2);
        x.set(1, 0);
        x.set(1, 9999);
        return x;
    }

    private static void fillings(Check c) {
        c.says(31, "if it is 1, fill(1 + r / 8 % 100) is done.");
        for (int units : new int[] {1, 2, 7, 8, 9, 49, 50, 51, 99, 100}) {
            int m = (units + 7) / 8;
            long seed = find(s -> {
                boolean wanted = number(s, 1) % 8 == 1 && 1 + number(s, 1) / 8 % 100 == units;
                for (int round = 2; wanted && round <= m; round++) {
                    wanted = number(s, round) % 8 > 1;
                }
                return wanted;
            });
            SnowGuns x = eightRun();
            c.is("fill(" + units + ")", x.simulate(seed, m), 10 * (8 + units));
            x.set(1, 0);
            c.is("fill(" + units + ") into no room", x.simulate(seed, m), 80);
            x.set(1, 1);
            c.is("fill(" + units + ") into a room of 1", x.simulate(seed, m), 90);
        }
    }

    private static void nothingElse(Check c) {
        c.says(31, "Then an hour passes.");
        for (int rest = 2; rest <= 7; rest++) {
            int by = rest;
            long seed = find(s -> number(s, 1) % 8 == by);
            SnowGuns x = TermEdges.withSnow(1, 50);
            c.is("r % 8 is " + rest, x.simulate(seed, 1), 510);
            x.set(1, 0);
            x.set(1, 9999);
            c.is("r % 8 is " + rest + ", no water", x.simulate(seed, 1), 500);
        }
        long three = find(s -> number(s, 1) % 8 > 1 && number(s, 2) % 8 > 1 && number(s, 3) % 8 > 1);
        for (int m = 1; m <= 3; m++) {
            c.is("hours", TermEdges.withSnow(1, 50).simulate(three, m), 500 + 10 * m);
        }
    }

    private static void rounds(Check c) {
        c.says(31, "- `m`: number of rounds, 1 to 99");
        c.says(31, "Throws `IllegalArgumentException` if m is out of range");
        c.range("simulate(0, ..)", Situations::used, 1, 99, (x, m) -> x.simulate(0, m));
        c.range("simulate(-1, ..)", Situations::bare, 1, 99, (x, m) -> x.simulate(-1, m));
        c.range("simulate(.., ..) of all", Situations::full, 1, 99, (x, m) -> x.simulate(Long.MIN_VALUE, m));
        for (int m : new int[] {1, 2, 98, 99}) {
            c.is("simulate(7, " + m + ")", Situations.used().simulate(7, m), done(Situations.used(), 7, m));
            c.is("simulate(8, " + m + ")", Situations.fresh().simulate(8, m), done(Situations.fresh(), 8, m));
        }
    }

    private static void answer(Check c) {
        c.says(31, "Returns 10 times the snow on all slopes, plus the number of slopes that are ready, at the end.");
        long still = find(s -> number(s, 1) % 8 > 1);
        c.is("no slope", Situations.bare().simulate(still, 1), 0);
        c.is("no snow, none ready", Check.loaded("P990999000s1001w-9").simulate(still, 1), 0);
        c.is("no snow, six ready", Check.loaded("P990999000s1000s1000s1000s1000s1000s1000w-9").simulate(still, 1), 6);
        SnowGuns x = Check.loaded("P990999000s1099s1003s1006g00g11g22w-9");
        x.pass(1);
        c.is("3 + 6 + 9 units, two ready", x.simulate(still, 1), 182);
    }
}
