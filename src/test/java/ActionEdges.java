/** Promises 12 to 21: pass, set, fill, setWet, setSlope, addSlope, removeSlope, addGun, bring, allow. */
final class ActionEdges {
    private ActionEdges() {
    }

    static void run(Check c) {
        pass(c);
        passIsOneAction(c);
        madeByAll(c);
        set(c);
        spills(c);
        fill(c);
        fillsAsFarAs(c);
        setWet(c);
        setSlope(c);
        readyByTarget(c);
        addSlope(c);
        removeSlope(c);
        laterSlopes(c);
        removedSnow(c);
        cannotBeRemoved(c);
        addGun(c);
        bring(c);
        allow(c);
        coldInTheNextHour(c);
    }

    private static void pass(Check c) {
        c.says(12, "Lets hours pass.");
        c.says(12, "- `m`: number of hours, 1 to 99");
        c.says(12, "Throws `IllegalArgumentException` if m is out of range");
        c.range("pass", Situations::fresh, 1, 99, SnowGuns::pass);
        c.range("pass", Situations::used, 1, 99, SnowGuns::pass);
        c.range("pass", Situations::full, 1, 99, SnowGuns::pass);
        c.range("pass", Situations::bare, 1, 99, SnowGuns::pass);
        for (int m = 1; m <= 99; m++) {
            SnowGuns x = Check.loaded("P990150325s4510s2203s1001g03g21g20w-9-5-2+3-8");
            SnowGuns y = Check.loaded("P990150325s4510s2203s1001g03g21g20w-9-5-2+3-8");
            int made = 0;
            for (int i = 0; i < m; i++) {
                made += y.pass(1);
            }
            c.is("the snow of " + m, x.pass(m), made);
            c.is("the hour", x.about(8), m);
            c.same("the same as " + m + " single ones", Check.seen(x), Check.seen(y));
        }
    }

    private static void passIsOneAction(Check c) {
        c.says(12, "(Together they are one action.)");
        SnowGuns x = Situations.used();
        String before = Check.seen(x);
        x.pass(99);
        c.is("one state more, one is forgotten", x.undo(), 13);
        c.same("all the hours are taken back", Check.seen(x), before);
        SnowGuns y = new SnowGuns();
        y.pass(99);
        c.is("the only one", y.undo(), 0);
        c.is("the hour", y.about(8), 0);
    }

    private static void madeByAll(Check c) {
        c.says(12, "Returns the snow that all guns made in them (also what was lost above 999).");
        SnowGuns x = Check.loaded("P990999010s9999s9999g03g11g00w-9-9+9");
        c.is("they warm", x.pass(1), 0);
        c.is("10 + 5 + 2", x.pass(1), 17);
        c.is("none in the warm, though it melts", x.pass(1), 0);
        c.is("only those hours count", x.pass(6), 34);
        c.is("without guns", Situations.bare().pass(99), 0);
    }

    private static void set(Check c) {
        c.says(13, "Changes the pump, the capacity, the inflow or the loss.");
        c.says(13, "- `what`: 0 to 3");
        c.says(13, "Throws `IllegalArgumentException` if what or v is out of range");
        c.range("set(.., 0)", Situations::used, 0, 3, (x, what) -> x.set(what, 0));
        c.range("set(.., 9)", Situations::fresh, 0, 3, (x, what) -> x.set(what, 9));
        c.says(13, "- `v`: new number, in its range");
        int[] most = {99, 9999, 9, 50};
        for (int what = 0; what < 4; what++) {
            int w = what;
            c.range("set(" + w + ", ..)", Situations::fresh, 0, most[w], (x, v) -> x.set(w, v));
            c.range("set(" + w + ", ..)", Situations::bare, 0, most[w], (x, v) -> x.set(w, v));
        }
        c.refused("both out of range", Situations::used, IllegalArgumentException.class, x -> x.set(4, -1));
        c.says(13, "Returns the previous number.");
        int[] first = {20, 500, 2, 10};
        SnowGuns x = new SnowGuns();
        for (int what = 0; what < 4; what++) {
            c.is("the number at first", x.set(what, most[what]), first[what]);
            c.is("the most", x.set(what, 0), most[what]);
            c.is("the least", x.set(what, 1), 0);
            c.is("the same again", x.set(what, 1), 1);
        }
        for (int what = 0; what < 4; what++) {
            c.is("each has its own", x.about(what), 1);
        }
    }

    private static void spills(Check c) {
        c.says(13, "If the capacity becomes less than the water in the pond, the rest is spilled.");
        int[][] rows = {{501, 500, 0}, {500, 500, 0}, {499, 499, 1}, {1, 1, 499}, {0, 0, 500}, {9999, 500, 0}};
        for (int[] row : rows) {
            SnowGuns x = new SnowGuns();
            x.set(1, row[0]);
            c.is("the water with the capacity " + row[0], x.about(7), row[1]);
            c.is("spilled by the capacity " + row[0], x.account(5), row[2]);
            c.is("nothing is lost in the ground", x.account(2), 0);
            x.set(1, 9999);
            c.is("it does not come back", x.about(7), row[1]);
        }
        SnowGuns x = new SnowGuns();
        x.set(1, 600);
        x.set(1, 550);
        c.is("the water, not the capacity before", x.account(5), 0);
        x.set(0, 0);
        x.set(2, 0);
        x.set(3, 0);
        c.is("nor by other numbers", x.about(7), 500);
    }

    private static void fill(Check c) {
        c.says(14, "- `units`: 1 to 9999");
        c.says(14, "Throws `IllegalArgumentException` if units is out of range");
        c.range("fill", Situations::fresh, 1, 9999, SnowGuns::fill);
        c.range("fill", Situations::used, 1, 9999, SnowGuns::fill);
        c.range("fill", Situations::bare, 1, 9999, SnowGuns::fill);
    }

    private static void fillsAsFarAs(Check c) {
        c.says(14, "Fills water into the pond, as far as the capacity allows.");
        c.says(14, "Returns how many units come into it.");
        int[][] rows = {{0, 1, 0}, {0, 9999, 0}, {1, 1, 1}, {1, 2, 1}, {2, 1, 1}, {50, 49, 49}, {50, 50, 50}, {50, 51, 50},
            {9499, 9498, 9498}, {9499, 9499, 9499}, {9499, 9999, 9499}};
        for (int[] row : rows) {
            SnowGuns x = new SnowGuns();
            x.set(1, 500 + row[0]);
            String what = row[1] + " units into a room of " + row[0];
            c.is(what, x.fill(row[1]), row[2]);
            c.is("the water then, " + what, x.about(7), 500 + row[2]);
            c.is("what came, " + what, x.account(0), 500 + row[2]);
            c.is("nothing is spilled, " + what, x.account(5), 0);
        }
        SnowGuns x = Check.loaded("P999999000s9999w-9");
        x.set(1, 0);
        x.set(1, 9999);
        c.is("all that there can be", x.fill(9999), 9999);
    }

    private static void setWet(Check c) {
        c.says(15, "Changes an entry of the weather. - `i`: entry, 0 to W - 1");
        c.says(15, "Throws `IllegalArgumentException` if i or v is out of range");
        c.range("setWet of 24", Situations::fresh, 0, 23, (x, i) -> x.setWet(i, 0));
        c.range("setWet of 5", Situations::used, 0, 4, (x, i) -> x.setWet(i, 0));
        c.range("setWet of 1", Situations::bare, 0, 0, (x, i) -> x.setWet(i, 0));
        c.says(15, "- `v`: -9 to 9");
        c.range("setWet(4, ..)", Situations::used, -9, 9, (x, v) -> x.setWet(4, v));
        c.refused("both out of range", Situations::used, IllegalArgumentException.class, x -> x.setWet(5, 10));
        c.says(15, "Returns the previous temperature.");
        SnowGuns x = Check.loaded("P990999000s9999w-9+9-0");
        c.is("the first", x.setWet(0, 5), -9);
        c.is("the second", x.setWet(1, -5), 9);
        c.is("the last", x.setWet(2, 9), 0);
        c.is("the first again", x.setWet(0, 5), 5);
        int[] want = {5, -5, 9, 5, -5, 9};
        for (int h = 0; h < 6; h++) {
            c.is("the temperature " + h, x.wet(h), want[h]);
        }
        x.pass(2);
        x.setWet(0, 1);
        c.is("the entry is not told from the present hour on", x.wet(0), 1);
        c.is("W stays", x.about(6), 3);
    }

    private static void setSlope(Check c) {
        c.says(16, "Changes the rank or the target of a slope.");
        c.says(16, "- `s`: slope");
        c.says(16, "Throws `IndexOutOfBoundsException` if there is no such slope");
        c.numbers("setSlope", Situations::fresh, 1, (x, s) -> x.setSlope(s, 1, 5));
        c.numbers("setSlope", Situations::used, 3, (x, s) -> x.setSlope(s, 2, 5));
        c.numbers("setSlope", Situations::full, 6, (x, s) -> x.setSlope(s, 1, 5));
        c.noSuch("setSlope", Situations::bare, 0, (x, s) -> x.setSlope(s, 1, 5));
        c.noSuch("setSlope, with a wrong what", Situations::used, 3, (x, s) -> x.setSlope(s, 3, 5));
        c.noSuch("setSlope, with a wrong v", Situations::used, 3, (x, s) -> x.setSlope(s, 2, 100));
        c.says(16, "- `what`: 1: the rank, 0 to 9; 2: the target, 0 to 99");
        c.says(16, "Throws `IllegalArgumentException` if what or v is out of range");
        c.range("setSlope(1, .., 5)", Situations::used, 1, 2, (x, what) -> x.setSlope(1, what, 5));
        c.says(16, "- `v`: new number, in its range");
        c.range("the rank", Situations::used, 0, 9, (x, v) -> x.setSlope(2, 1, v));
        c.range("the target", Situations::used, 0, 99, (x, v) -> x.setSlope(2, 2, v));
        c.says(16, "Returns the previous number.");
        SnowGuns x = Check.loaded("P990999000s1512s2634w-9");
        int[][] rows = {{0, 1, 9, 5}, {0, 1, 0, 9}, {1, 1, 0, 6}, {0, 2, 99, 12}, {0, 2, 0, 99}, {1, 2, 1, 34}, {1, 2, 1, 1}};
        for (int[] row : rows) {
            c.is("setSlope(" + row[0] + ", " + row[1] + ", " + row[2] + ")", x.setSlope(row[0], row[1], row[2]), row[3]);
            c.is("the number then", x.slope(row[0], row[1]), row[2]);
        }
        c.is("the other rank", x.slope(1, 1), 0);
        c.is("the area stays", x.slope(1, 0), 2);
    }

    private static void readyByTarget(Check c) {
        c.says(16, "(A slope that is ready by this does not come into the book by it.)");
        SnowGuns x = TermEdges.withSnow(1, 5);
        c.is("not ready", x.slope(0, 5), 0);
        x.setSlope(0, 2, 5);
        c.is("ready", x.slope(0, 5), 1);
        c.is("not in the book", x.about(11), 0);
        x.pass(1);
        c.is("nor after an hour", x.about(11), 0);
        x.setSlope(0, 2, 6);
        x.pass(2);
        c.is("but by the snow that it lacks then", x.about(11), 1);
        c.is("in that hour", x.book(0, 1), x.about(8));
    }

    private static void addSlope(Check c) {
        c.says(17, "Adds a slope without snow.");
        c.says(17, "Returns its number.");
        SnowGuns x = Situations.used();
        c.is("the number", x.addSlope(9, 8, 77), 3);
        int[] want = {9, 8, 77, 0, 0, 0, 0};
        for (int what = 0; what < want.length; what++) {
            c.is("slope(3, " + what + ")", x.slope(3, what), want[what]);
        }
        SnowGuns none = Situations.bare();
        for (int s = 0; s < 6; s++) {
            c.is("slope " + s + " of none", none.addSlope(1, 1, 1), s);
        }
        // a slope with 12 units goes, another one comes in its place
        SnowGuns y = Check.loaded("P990999000s9999s9999g13w-9");
        y.pass(2);
        y.bring(0, 0);
        c.is("the snow that goes", y.removeSlope(1), 12);
        c.is("its number is given again", y.addSlope(9, 9, 99), 1);
        c.is("without that snow", y.slope(1, 3), 0);
        c.says(17, "Throws `IllegalArgumentException` if an argument is out of range");
        c.range("the area", Situations::fresh, 1, 9, (z, v) -> z.addSlope(v, 0, 0));
        c.range("the rank", Situations::fresh, 0, 9, (z, v) -> z.addSlope(1, v, 0));
        c.range("the target", Situations::fresh, 0, 99, (z, v) -> z.addSlope(1, 0, v));
        c.refused("all of them", Situations::bare, IllegalArgumentException.class, z -> z.addSlope(0, 10, 100));
        c.says(17, "Throws `IllegalStateException` if there are 6 slopes");
        c.refused("with six slopes", Situations::full, IllegalStateException.class, z -> z.addSlope(9, 9, 99));
        c.refused("with six slopes and a wrong area", Situations::full, IllegalArgumentException.class,
            z -> z.addSlope(0, 9, 99));
        c.refused("with six slopes and a wrong rank", Situations::full, IllegalArgumentException.class,
            z -> z.addSlope(9, 10, 99));
        c.refused("with six slopes and a wrong target", Situations::full, IllegalArgumentException.class,
            z -> z.addSlope(9, 9, 100));
    }

    private static void removeSlope(Check c) {
        c.says(18, "- `s`: slope");
        c.says(18, "Throws `IndexOutOfBoundsException` if there is no such slope");
        c.noSuch("removeSlope", Situations::fresh, 1, SnowGuns::removeSlope);
        c.noSuch("removeSlope", Situations::used, 3, SnowGuns::removeSlope);
        c.noSuch("removeSlope", Situations::full, 6, SnowGuns::removeSlope);
        c.noSuch("removeSlope", Situations::bare, 0, SnowGuns::removeSlope);
        SnowGuns x = Check.loaded("P990999000s1101s2202s3303s4404s5505s6606w-9");
        for (int left = 5; left >= 0; left--) {
            c.is("removeSlope of the last one", x.removeSlope(left), 0);
            c.is("the slopes that are left", x.about(4), left);
        }
        SnowGuns y = Check.loaded("P990999000s1101s2202s3303s4404s5505s6606w-9");
        for (int left = 5; left >= 0; left--) {
            c.is("removeSlope of the first one", y.removeSlope(0), 0);
            c.is("the slopes that are left", y.about(4), left);
            c.is("the first one then", left == 0 ? 0 : y.slope(0, 0), left == 0 ? 0 : 7 - left);
        }
    }

    private static void laterSlopes(Check c) {
        c.says(18, "the numbers of later ones decrease by 1 (their guns stay at them).");
        for (int removed = 0; removed < 6; removed++) {
            SnowGuns x = Check.loaded("P990999000s1199s2299s3399s4499s5599s6699g00g10g20g30g40g50w-9");
            x.pass(3);
            x.bring(removed, (removed + 1) % 6);
            x.pass(1);
            x.removeSlope(removed);
            c.is("slopes", x.about(4), 5);
            for (int s = 0; s < 5; s++) {
                int before = s < removed ? s : s + 1;
                c.is("the area of " + s + " without " + removed, x.slope(s, 0), before + 1);
                c.is("the rank of " + s + " without " + removed, x.slope(s, 1), before + 1);
                c.is("the target of " + s + " without " + removed, x.slope(s, 2), 99);
                c.is("the snow of " + s + " without " + removed, x.slope(s, 3), 9);
                c.is("the guns of " + s + " without " + removed, x.slope(s, 6), before == (removed + 1) % 6 ? 2 : 1);
                c.is("the slope of gun " + before + " without " + removed, x.gun(before, 0), s);
                c.is("it runs on, without " + removed, x.gun(before, 3), 2);
            }
        }
    }

    private static void removedSnow(Check c) {
        c.says(18, "Removes a slope with its snow;");
        c.says(18, "Returns the snow that goes with it.");
        SnowGuns x = Check.loaded("P990999000s9999s9999s9999g00g11g22w-9");
        x.pass(2);
        x.bring(1, 0);
        c.is("its snow", x.removeSlope(1), 6);
        c.is("lies no more", x.account(4), 3 + 9);
        c.is("and is counted", x.account(5), 6);
        c.is("a slope without snow", x.removeSlope(x.addSlope(1, 1, 1)), 0);
        c.is("counts nothing", x.account(5), 6);
    }

    private static void cannotBeRemoved(Check c) {
        c.says(18, "Throws `IllegalStateException` if it has guns");
        c.refused("the slope of the only gun", Situations::fresh, IllegalStateException.class, x -> x.removeSlope(0));
        c.refused("the slope of a gun that is not allowed", Situations::used, IllegalStateException.class,
            x -> x.removeSlope(0));
        c.refused("the last slope, with two guns", Situations::used, IllegalStateException.class, x -> x.removeSlope(2));
        c.refused("the slope of the last gun", () -> Check.loaded("P990999000s1101s1101s1101g00g00g20w-9"),
            IllegalStateException.class, x -> x.removeSlope(2));
        SnowGuns x = Situations.used();
        c.is("a slope without guns", x.removeSlope(1), 0);
    }

    private static void addGun(Check c) {
        c.says(19, "Adds a gun, which is allowed and cold.");
        c.says(19, "Returns its number.");
        SnowGuns x = Situations.used();
        c.is("the number", x.addGun(1, 3), 3);
        int[] want = {1, 3, 1, 0, 0, 0};
        for (int what = 0; what < want.length; what++) {
            c.is("gun(3, " + what + ")", x.gun(3, what), want[what]);
        }
        SnowGuns none = Situations.bare();
        none.addSlope(1, 1, 1);
        for (int g = 0; g < 8; g++) {
            c.is("gun " + g + " of none", none.addGun(0, 0), g);
        }
        c.says(19, "- `s`: slope");
        c.says(19, "Throws `IndexOutOfBoundsException` if there is no such slope");
        c.numbers("addGun", Situations::fresh, 1, (y, s) -> y.addGun(s, 0));
        c.numbers("addGun", Situations::used, 3, (y, s) -> y.addGun(s, 0));
        c.noSuch("addGun", Situations::bare, 0, (y, s) -> y.addGun(s, 0));
        c.noSuch("addGun, with a wrong nozzle", Situations::used, 3, (y, s) -> y.addGun(s, 4));
        c.noSuch("addGun, with eight guns", Situations::full, 6, (y, s) -> y.addGun(s, 0));
        c.noSuch("addGun, with eight guns and a wrong nozzle", Situations::full, 6, (y, s) -> y.addGun(s, -1));
        c.says(19, "Throws `IllegalArgumentException` if nozzle is out of range");
        c.range("addGun", Situations::fresh, 0, 3, (y, nozzle) -> y.addGun(0, nozzle));
        for (int nozzle : new int[] {-1, 4}) {
            c.refused("a wrong nozzle, with eight guns", Situations::full, IllegalArgumentException.class,
                y -> y.addGun(0, nozzle));
        }
        c.says(19, "Throws `IllegalStateException` if there are 8 guns");
        for (int s = 0; s < 6; s++) {
            int slope = s;
            c.refused("with eight guns", Situations::full, IllegalStateException.class, y -> y.addGun(slope, 3));
        }
    }

    private static void bring(Check c) {
        c.says(20, "Brings a gun to a slope (or the same); it is cold then.");
        c.says(20, "Returns the slope at which it was.");
        for (int to = 0; to < 2; to++) {
            for (int hours = 1; hours <= 2; hours++) {
                SnowGuns x = Check.loaded("P990999000s9999s9999g00g03w-9");
                x.allow(1, false);
                x.allow(1, true);
                x.pass(hours);
                c.is("bring(1, " + to + ") after " + hours, x.bring(1, to), 0);
                int[] want = {to, 3, 1, 0, hours == 2 ? 12 : 0, hours - 1};
                for (int what = 0; what < want.length; what++) {
                    c.is("gun(1, " + what + ")", x.gun(1, what), want[what]);
                }
                c.is("the other one goes on", x.gun(0, 3), hours);
                c.is("the snow stays", x.slope(0, 3), hours == 2 ? 15 : 0);
                x.pass(1);
                c.is("it warms first", x.gun(1, 3), 1);
                c.is("and back", x.bring(1, 0), to);
            }
        }
        c.says(20, "- `g`: gun - `s`: slope");
        c.says(20, "Throws `IndexOutOfBoundsException` if there is no such gun or slope");
        c.numbers("bring(.., 1)", Situations::used, 3, (x, g) -> x.bring(g, 1));
        c.numbers("bring(0, ..)", Situations::used, 3, (x, s) -> x.bring(0, s));
        c.numbers("bring(.., 5)", Situations::full, 8, (x, g) -> x.bring(g, 5));
        c.numbers("bring(7, ..)", Situations::full, 6, (x, s) -> x.bring(7, s));
        c.noSuch("bring(.., 0)", Situations::bare, 0, (x, g) -> x.bring(g, 0));
        c.noSuch("bring of both", Situations::used, 3, (x, n) -> x.bring(n, n));
    }

    private static void allow(Check c) {
        c.says(21, "Allows a gun or not.");
        c.says(21, "- `allowed`: whether it is allowed");
        c.says(21, "Returns how many guns are allowed then.");
        SnowGuns x = Check.loaded("P990999000s9999" + "g00".repeat(8) + "w-9");
        for (int g = 0; g < 8; g++) {
            c.is("allow(" + g + ", false)", x.allow(g, false), 7 - g);
            c.is("once more", x.allow(g, false), 7 - g);
            c.is("it is not", x.gun(g, 2), 0);
        }
        for (int g = 0; g < 8; g++) {
            c.is("allow(" + g + ", true)", x.allow(g, true), g + 1);
            c.is("once more", x.allow(g, true), g + 1);
            c.is("it is", x.gun(g, 2), 1);
        }
        SnowGuns one = new SnowGuns();
        one.addGun(0, 0);
        one.undo();
        c.is("a gun that was taken back is none", one.allow(0, true), 1);
        c.is("nor then", one.allow(0, false), 0);
        c.says(21, "- `g`: gun");
        c.says(21, "Throws `IndexOutOfBoundsException` if there is no such gun");
        c.numbers("allow", Situations::fresh, 1, (y, g) -> y.allow(g, false));
        c.numbers("allow", Situations::used, 3, (y, g) -> y.allow(g, true));
        c.numbers("allow", Situations::full, 8, (y, g) -> y.allow(g, false));
        c.noSuch("allow", Situations::bare, 0, (y, g) -> y.allow(g, true));
    }

    private static void coldInTheNextHour(Check c) {
        c.says(21, "(It becomes cold in the next hour, if it is not allowed.)");
        for (int hours = 1; hours <= 2; hours++) {
            SnowGuns x = Check.loaded("P990999000s9999g00w-9");
            x.pass(hours);
            x.allow(0, false);
            c.is("as before", x.gun(0, 3), hours);
            SnowGuns y = Check.loaded("P990999000s9999g00w-9");
            y.pass(hours);
            y.allow(0, false);
            y.allow(0, true);
            y.pass(1);
            c.is("allowed again in the same hour, it goes on", y.gun(0, 3), 2);
            c.is("no snow", x.pass(1), 0);
            c.is("cold", x.gun(0, 3), 0);
            x.allow(0, true);
            c.is("cold still", x.gun(0, 3), 0);
            x.pass(1);
            c.is("it warms first", x.gun(0, 3), 1);
        }
    }
}
