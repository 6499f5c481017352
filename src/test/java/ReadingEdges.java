/** Promises 6 to 11: about, slope, gun, account, book, wet. */
final class ReadingEdges {
    private ReadingEdges() {
    }

    static void run(Check c) {
        settings(c);
        slopesAndGuns(c);
        waterAndHour(c);
        readySlopes(c);
        runningGuns(c);
        entries(c);
        presentHour(c);
        aboutRange(c);
        slope(c);
        readyOne(c);
        gunsOfSlope(c);
        noSuchSlope(c);
        gun(c);
        madeAndRan(c);
        noSuchGun(c);
        whatCame(c);
        whatWasLost(c);
        whatMelted(c);
        whatLies(c);
        whatWasSpilled(c);
        accountRange(c);
        book(c);
        bookRange(c);
        wet(c);
        changeNothing(c);
    }

    private static void settings(Check c) {
        c.says(6, "Returns a number. - `what`: 0 to 3: the pump, the capacity, the inflow, the loss;");
        c.says(6, "Returns that number.");
        SnowGuns x = Check.loaded("P123456739s4510w-4");
        int[] want = {12, 3456, 7, 39};
        for (int what = 0; what < 4; what++) {
            c.is("about(" + what + ")", x.about(what), want[what]);
        }
    }

    private static void slopesAndGuns(Check c) {
        c.says(6, "4: the number of slopes; 5: of guns; 6: W;");
        int[][] want = {{1, 1, 24}, {3, 3, 5}, {6, 8, 4}, {0, 0, 1}};
        SnowGuns[] all = {Situations.fresh(), Situations.used(), Situations.full(), Situations.bare()};
        for (int i = 0; i < all.length; i++) {
            for (int what = 4; what <= 6; what++) {
                c.is("about(" + what + ") of situation " + i, all[i].about(what), want[i][what - 4]);
            }
        }
    }

    private static void waterAndHour(Check c) {
        c.says(6, "7: the water in the pond; 8: the hour;");
        SnowGuns x = Check.loaded("P990012000s9999g00w-9");
        for (int hour = 0; hour <= 4; hour++) {
            c.is("the hour", x.about(8), hour);
            c.is("the water", x.about(7), 12 - 3 * hour);
            x.pass(1);
        }
        c.is("no less than none", x.about(7), 0);
    }

    private static void readySlopes(Check c) {
        c.says(6, "9: the number of slopes that are ready;");
        SnowGuns x = Check.loaded("P990999000s1001s1002s1003s1004s1005s1006w-9");
        c.is("none", x.about(9), 0);
        for (int s = 0; s < 6; s++) {
            x.setSlope(s, 2, 0);
            c.is("so many of six", x.about(9), s + 1);
        }
        c.is("without slopes", Situations.bare().about(9), 0);
    }

    private static void runningGuns(Check c) {
        c.says(6, "10: of guns that run;");
        SnowGuns x = Check.loaded("P990999000s9999" + "g00".repeat(8) + "w-9");
        c.is("all are cold", x.about(10), 0);
        x.pass(1);
        c.is("all warm", x.about(10), 0);
        x.pass(1);
        c.is("all run", x.about(10), 8);
        for (int g = 0; g < 8; g++) {
            x.bring(g, 0);
            c.is("all but " + (g + 1), x.about(10), 7 - g);
        }
        c.is("without guns", Situations.bare().about(10), 0);
    }

    private static void entries(Check c) {
        c.says(6, "11: of entries in the book;");
        SnowGuns x = Check.loaded("P999999000s1001s1001g00g10w-9-9+9");
        for (int count = 0; count <= 12; count++) {
            c.is("entries", x.about(11), Math.min(20, 2 * count));
            x.pass(3);
        }
    }

    private static void presentHour(Check c) {
        c.says(6, "12: the temperature of the present hour; 13: its cold");
        SnowGuns x = Check.loaded("P990999000s9999w-9-5-2-1+9");
        int[][] want = {{-9, 3}, {-5, 2}, {-2, 1}, {-1, 0}, {9, 0}, {-9, 3}, {-5, 2}};
        for (int[] row : want) {
            c.is("the temperature", x.about(12), row[0]);
            c.is("the cold", x.about(13), row[1]);
            x.pass(1);
        }
    }

    private static void aboutRange(Check c) {
        c.says(6, "Throws `IllegalArgumentException` if what is not 0 to 13");
        c.range("about", Situations::fresh, 0, 13, SnowGuns::about);
        c.range("about", Situations::used, 0, 13, SnowGuns::about);
        c.range("about", Situations::full, 0, 13, SnowGuns::about);
        c.range("about", Situations::bare, 0, 13, SnowGuns::about);
    }

    private static void slope(Check c) {
        c.says(7, "Returns a number of a slope. - `s`: slope - `what`: 0: its area; 1: its rank; 2: its target; 3: its snow; "
            + "4: its depth;");
        c.says(7, "Returns that number.");
        SnowGuns x = Check.loaded("P990999000s2710s9056s4999g10g01g22w-9");
        x.pass(3);
        int[][] want = {{2, 7, 10, 12, 6}, {9, 0, 56, 6, 0}, {4, 9, 99, 18, 4}};
        for (int s = 0; s < 3; s++) {
            for (int what = 0; what < 5; what++) {
                c.is("slope(" + s + ", " + what + ")", x.slope(s, what), want[s][what]);
            }
        }
    }

    private static void readyOne(Check c) {
        c.says(7, "5: 1 if it is ready, 0 if not;");
        SnowGuns x = TermEdges.withSnow(3, 8);
        c.is("the depth 2 against 99", x.slope(0, 5), 0);
        x.setSlope(0, 2, 3);
        c.is("the depth 2 against 3", x.slope(0, 5), 0);
        x.setSlope(0, 2, 2);
        c.is("the depth 2 against 2", x.slope(0, 5), 1);
        x.setSlope(0, 2, 1);
        c.is("the depth 2 against 1", x.slope(0, 5), 1);
    }

    private static void gunsOfSlope(Check c) {
        c.says(7, "6: the number of its guns");
        SnowGuns x = Check.loaded("P990999000s1999s1999s1999" + "g00".repeat(7) + "g20w-9");
        c.is("seven", x.slope(0, 6), 7);
        c.is("none", x.slope(1, 6), 0);
        c.is("one", x.slope(2, 6), 1);
        x.bring(7, 0);
        c.is("eight", x.slope(0, 6), 8);
        c.is("no more", x.slope(2, 6), 0);
        x.allow(7, false);
        c.is("also those that are not allowed", x.slope(0, 6), 8);
    }

    private static void noSuchSlope(Check c) {
        c.says(7, "Throws `IndexOutOfBoundsException` if there is no such slope");
        c.numbers("slope", Situations::fresh, 1, (x, s) -> x.slope(s, 6));
        c.numbers("slope", Situations::used, 3, (x, s) -> x.slope(s, 6));
        c.numbers("slope", Situations::full, 6, (x, s) -> x.slope(s, 6));
        c.noSuch("slope", Situations::bare, 0, (x, s) -> x.slope(s, 0));
        c.noSuch("slope, with a wrong what", Situations::used, 3, (x, s) -> x.slope(s, 7));
        c.says(7, "Throws `IllegalArgumentException` if what is not 0 to 6");
        c.range("slope(0, ..)", Situations::fresh, 0, 6, (x, what) -> x.slope(0, what));
        c.range("slope(2, ..)", Situations::used, 0, 6, (x, what) -> x.slope(2, what));
    }

    private static void gun(Check c) {
        c.says(8, "Returns a number of a gun. - `g`: gun - `what`: 0: its slope; 1: its nozzle; 2: 1 if it is allowed, 0 if "
            + "not; 3: 0 if it is cold, 1 if it warms, 2 if it runs;");
        c.says(8, "Returns that number.");
        SnowGuns x = Check.loaded("P990999000s1999s1999g13g02w-9");
        x.pass(1);
        x.allow(1, false);
        x.pass(1);
        x.addGun(1, 1);
        x.allow(2, false);
        x.allow(2, true);
        int[][] want = {{1, 3, 1, 2}, {0, 2, 0, 0}, {1, 1, 1, 0}};
        for (int g = 0; g < 3; g++) {
            for (int what = 0; what < 4; what++) {
                c.is("gun(" + g + ", " + what + ")", x.gun(g, what), want[g][what]);
            }
        }
        x.pass(1);
        c.is("it warms", x.gun(2, 3), 1);
    }

    private static void madeAndRan(Check c) {
        c.says(8, "4: the snow that it has made so far (also what was lost above 999); 5: the hours in which it ran");
        SnowGuns x = Check.loaded("P990999010s9999s9999g03g00w-9-9+9");
        int[][] want = {{0, 0, 0, 0}, {0, 0, 0, 0}, {10, 1, 2, 1}, {10, 1, 2, 1}, {10, 1, 2, 1}, {20, 2, 4, 2}};
        for (int hour = 0; hour < want.length; hour++) {
            for (int i = 0; i < 4; i++) {
                c.is("gun(" + i / 2 + ", " + (4 + i % 2) + ") in the hour " + hour, x.gun(i / 2, 4 + i % 2), want[hour][i]);
            }
            x.pass(1);
        }
        x.bring(0, 1);
        c.is("also at other slopes", x.gun(0, 4), 20);
        c.is("and its hours", x.gun(0, 5), 2);
    }

    private static void noSuchGun(Check c) {
        c.says(8, "Throws `IndexOutOfBoundsException` if there is no such gun");
        c.numbers("gun", Situations::fresh, 1, (x, g) -> x.gun(g, 5));
        c.numbers("gun", Situations::used, 3, (x, g) -> x.gun(g, 5));
        c.numbers("gun", Situations::full, 8, (x, g) -> x.gun(g, 5));
        c.noSuch("gun", Situations::bare, 0, (x, g) -> x.gun(g, 0));
        c.noSuch("gun, with a wrong what", Situations::used, 3, (x, g) -> x.gun(g, 6));
        c.says(8, "Throws `IllegalArgumentException` if what is not 0 to 5");
        c.range("gun(0, ..)", Situations::fresh, 0, 5, (x, what) -> x.gun(0, what));
        c.range("gun(2, ..)", Situations::used, 0, 5, (x, what) -> x.gun(2, what));
    }

    private static void whatCame(Check c) {
        c.says(9, "Returns an account of water since the beginning. - `what`: 0: what was in the pond at first, or came by "
            + "inflow or by fill();");
        c.says(9, "Returns that number.");
        SnowGuns x = Check.loaded("P990100300s9999w+0");
        c.is("what was there at first", x.account(0), 100);
        x.pass(1);
        c.is("no inflow into a full pond", x.account(0), 100);
        x.set(1, 90);
        x.set(1, 100);
        c.is("what was spilled had come", x.account(0), 100);
        x.pass(1);
        c.is("the inflow", x.account(0), 103);
        x.fill(4);
        c.is("a filling", x.account(0), 107);
        x.fill(4);
        c.is("as far as there was room", x.account(0), 110);
        c.is("a pond of 0", Check.loaded("P990000300s9999w+0").account(0), 0);
        c.is("a pond of 9999", Check.loaded("P999999300s9999w+0").account(0), 9999);
    }

    private static void whatWasLost(Check c) {
        c.says(9, "1: what was lost in the air; 2: what was lost in the ground;");
        SnowGuns x = Check.loaded("P990999010s9999g03w-9-9+1");
        int[][] want = {{0, 0}, {12, 0}, {14, 0}, {14, 5}};
        for (int[] row : want) {
            c.is("in the air, hour " + x.about(8), x.account(1), row[0]);
            c.is("in the ground, hour " + x.about(8), x.account(2), row[1]);
            x.pass(1);
        }
    }

    private static void whatMelted(Check c) {
        c.says(9, "3: what melted (also what came back into the pond);");
        SnowGuns x = Check.loaded("P990999000s9999g03w-9-9+1");
        x.pass(2);
        c.is("nothing", x.account(3), 0);
        int pond = x.about(7);
        x.pass(1);
        c.is("nine units of twelve", x.account(3), 9);
        c.is("four came back", x.about(7), pond + 4);
        c.is("five did not", x.account(2), 5);
    }

    private static void whatLies(Check c) {
        c.says(9, "4: the snow on all slopes;");
        SnowGuns x = Check.loaded("P990999000s9999s9999s9999g03g11g20w-9");
        c.is("none", x.account(4), 0);
        x.pass(2);
        c.is("on three slopes", x.account(4), 12 + 6 + 3);
        x.bring(1, 0);
        x.removeSlope(1);
        c.is("on two of them", x.account(4), 12 + 3);
        c.is("without slopes", Situations.bare().account(4), 0);
    }

    private static void whatWasSpilled(Check c) {
        c.says(9, "5: what was spilled by set() or went with slopes that were removed");
        SnowGuns x = Check.loaded("P990999000s9999s9999g03w-9");
        x.pass(2);
        c.is("nothing", x.account(5), 0);
        x.set(1, 975);
        c.is("no room is lost yet", x.account(5), 0);
        x.set(1, 974);
        c.is("a unit", x.account(5), 1);
        x.bring(0, 1);
        x.removeSlope(0);
        c.is("a slope's twelve", x.account(5), 13);
    }

    private static void accountRange(Check c) {
        c.says(9, "Throws `IllegalArgumentException` if what is not 0 to 5");
        c.range("account", Situations::fresh, 0, 5, SnowGuns::account);
        c.range("account", Situations::used, 0, 5, SnowGuns::account);
        c.range("account", Situations::bare, 0, 5, SnowGuns::account);
    }

    private static void book(Check c) {
        c.says(10, "Returns a number of an entry of the book. - `j`: 0 for the latest one, 1 for the one before, and so on");
        c.says(10, "- `what`: 0: the slope; 1: the hour");
        c.says(10, "Returns that number; NONE if there are not so many.");
        for (int count = 0; count <= 22; count++) {
            SnowGuns x = Check.loaded("P999999000s1099s1001g10w-9-9+9");
            for (int i = 0; i < count; i++) {
                x.pass(3);
            }
            int held = Math.min(count, 20);
            for (int j = 0; j < held; j++) {
                c.is("the slope of entry " + j + " of " + count, x.book(j, 0), 1);
                c.is("the hour of entry " + j + " of " + count, x.book(j, 1), 3 * (count - j) - 1);
            }
            for (int j : new int[] {held, held + 1, 20, 21, Integer.MAX_VALUE}) {
                c.is("no slope of entry " + j + " of " + count, x.book(j, 0), SnowGuns.NONE);
                c.is("no hour of entry " + j + " of " + count, x.book(j, 1), SnowGuns.NONE);
            }
        }
    }

    private static void bookRange(Check c) {
        c.says(10, "Throws `IllegalArgumentException` if j is negative, or what is not 0 or 1");
        c.range("book(0, ..)", Situations::fresh, 0, 1, (x, what) -> x.book(0, what));
        c.range("book(0, ..)", Situations::used, 0, 1, (x, what) -> x.book(0, what));
        c.range("book(20, ..)", Situations::used, 0, 1, (x, what) -> x.book(20, what));
        for (int j : new int[] {-1, -2, Integer.MIN_VALUE}) {
            for (int what = -1; what <= 2; what++) {
                int w = what;
                c.refused("book(" + j + ", " + w + ")", Situations::used, IllegalArgumentException.class, x -> x.book(j, w));
                c.refused("book(" + j + ", " + w + ")", Situations::fresh, IllegalArgumentException.class, x -> x.book(j, w));
            }
        }
        for (int what = 0; what <= 1; what++) {
            c.is("an entry of an empty book", new SnowGuns().book(0, what), SnowGuns.NONE);
            c.is("the greatest j", Situations.used().book(Integer.MAX_VALUE, what), SnowGuns.NONE);
        }
    }

    private static void wet(Check c) {
        c.says(11, "Returns the temperature of an hour. - `hour`: 0 to 9999");
        c.says(11, "Returns the wet-bulb temperature.");
        c.says(11, "Throws `IllegalArgumentException` if hour is out of range");
        c.range("wet", Situations::fresh, 0, 9999, SnowGuns::wet);
        c.range("wet", Situations::used, 0, 9999, SnowGuns::wet);
        c.range("wet", Situations::bare, 0, 9999, SnowGuns::wet);
        SnowGuns x = Check.loaded("P990999000s9999w-9-8-7-6-5-4+3");
        int[] row = {-9, -8, -7, -6, -5, -4, 3};
        for (int h : new int[] {0, 1, 5, 6, 7, 8, 13, 14, 9995, 9996, 9997, 9998, 9999}) {
            c.is("wet(" + h + ")", x.wet(h), row[h % 7]);
        }
        c.is("9996 = 7 * 1428", x.wet(9996), -9);
        c.is("9995", x.wet(9995), 3);
        x.pass(99);
        c.is("not from the present hour on", x.wet(0), -9);
    }

    private static void changeNothing(Check c) {
        c.says(6, "Returns a number.");
        for (int what = 0; what <= 13; what++) {
            int w = what;
            c.leavesNoTrace("about(" + w + ")", Situations::used, x -> x.about(w));
        }
        for (int what = 0; what <= 5; what++) {
            int w = what;
            c.leavesNoTrace("slope(1, " + w + ")", Situations::used, x -> x.slope(1, w));
            c.leavesNoTrace("gun(1, " + w + ")", Situations::used, x -> x.gun(1, w));
            c.leavesNoTrace("account(" + w + ")", Situations::used, x -> x.account(w));
        }
        c.leavesNoTrace("slope(1, 6)", Situations::used, x -> x.slope(1, 6));
        c.leavesNoTrace("book(0, 0)", Situations::used, x -> x.book(0, 0));
        c.leavesNoTrace("book(20, 1)", Situations::used, x -> x.book(20, 1));
        c.leavesNoTrace("wet(9999)", Situations::used, x -> x.wet(9999));
    }
}
