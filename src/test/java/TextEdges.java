/** The terms: the text; promises 2 to 5: append, clearText, errorPosition, load. */
final class TextEdges {
    private static final String DIGITS = "0123456789";
    private static final String HEAD = "P200500210";
    private static final String SIX = "s4510s9999s1000s2305s3160s5777";
    private static final String EIGHT = "g53g40g31g22g13g02g01g00";

    private TextEdges() {
    }

    static void run(Check c) {
        atMost120(c);
        codes(c);
        lengths(c);
        clear(c);
        letterP(c);
        headDigits(c);
        losses(c);
        slopes(c);
        slopeDigits(c);
        guns(c);
        gunDigits(c);
        temperatures(c);
        signs(c);
        noBlanks(c);
        leftToRight(c);
        firstWrongSign(c);
        digits(c);
        tooSoon(c);
        checked(c);
        loadLeast(c);
        loadMost(c);
        loadForgets(c);
        loadKeepsTheText(c);
        loadCounts(c);
        loadRefuses(c);
    }

    /** Behind this beginning of a text just these signs are allowed; with one of them it is right, or too short. */
    private static void next(Check c, String begin, String allowed, boolean right) {
        int at = begin.length();
        int behind = right ? SnowGuns.NONE : at + 1;
        for (int code = 0; code <= 255; code++) {
            SnowGuns x = Check.written(begin);
            x.append(code);
            int want = allowed.indexOf(code) >= 0 ? behind : at;
            c.is("the sign " + code + " behind " + begin, x.errorPosition(), want);
        }
    }

    private static void atMost120(Check c) {
        c.says(0, "The object has a text buffer of at most 120 characters.");
        SnowGuns x = new SnowGuns();
        for (int n = 1; n <= 120; n++) {
            c.is("a sign more", x.append('P'), n);
        }
        c.is("of 120 signs the second one is wrong", x.errorPosition(), 1);
        c.says(2, "Throws `IllegalStateException` if the text already has 120 characters");
        c.refused("one sign more than 120", Situations::full, IllegalStateException.class, y -> y.append('w'));
        SnowGuns y = Situations.full();
        c.is("the text is full", y.clearText(), 120);
        c.is("and takes signs again", y.append('P'), 1);
    }

    private static void codes(Check c) {
        c.says(2, "- `c`: character code, 0 to 255");
        c.says(2, "Throws `IllegalArgumentException` if c is out of range");
        c.range("append", Situations::fresh, 0, 255, SnowGuns::append);
        c.range("append", Situations::used, 0, 255, SnowGuns::append);
        SnowGuns x = new SnowGuns();
        for (int code = 0; code <= 255; code += 3) {
            c.is("the code " + code, x.append(code), code / 3 + 1);
        }
        c.refused("the code goes before the full text", Situations::full, IllegalArgumentException.class,
            y -> y.append(256));
        c.refused("below 0, too", Situations::full, IllegalArgumentException.class, y -> y.append(-1));
    }

    private static void lengths(Check c) {
        c.says(2, "Appends a character to the text buffer.");
        c.says(2, "Returns the new length of the text.");
        SnowGuns x = new SnowGuns();
        c.is("the first sign", x.append('P'), 1);
        c.is("at its place", x.errorPosition(), 1);
        c.is("the second sign", x.append('9'), 2);
        c.is("behind it", x.errorPosition(), 2);
        c.is("a wrong one", x.append('P'), 3);
        c.is("is at the end", x.errorPosition(), 2);
    }

    private static void clear(Check c) {
        c.says(3, "Empties the text buffer.");
        c.says(3, "Returns the previous length of the text.");
        SnowGuns x = new SnowGuns();
        c.is("no text", x.clearText(), 0);
        x.append('P');
        c.is("one sign", x.clearText(), 1);
        c.is("none is left", x.clearText(), 0);
        c.is("nothing is read", x.errorPosition(), 0);
        SnowGuns y = Situations.used();
        String before = Check.seen(y);
        c.is("a right text", y.clearText(), 45);
        c.same("the state stays", Check.seen(y), before.replace("text -9999", "text 0"));
        c.is("it is no action", y.undo(), 13);
    }

    private static void letterP(Check c) {
        c.says(0, "A text is the letter P,");
        next(c, "", "P", false);
    }

    private static void headDigits(Check c) {
        c.says(0, "two digits for the pump,");
        next(c, "P", DIGITS, false);
        next(c, "P2", DIGITS, false);
        c.says(0, "four digits for the capacity of the pond (it is full),");
        next(c, "P20", DIGITS, false);
        next(c, "P200", DIGITS, false);
        next(c, "P2005", DIGITS, false);
        next(c, "P20050", DIGITS, false);
        SnowGuns x = Check.loaded("P201234210s4510w-4");
        c.is("its capacity", x.about(1), 1234);
        c.is("its water", x.about(7), 1234);
        c.says(0, "the digit of the inflow");
        next(c, "P200500", DIGITS, false);
    }

    private static void losses(Check c) {
        c.says(0, "and two digits for the loss (00 to 50);");
        next(c, "P2005002", "012345", false);
        for (char first = '0'; first <= '4'; first++) {
            next(c, "P2005002" + first, DIGITS, false);
        }
        next(c, "P20050025", "0", false);
        for (int loss = 0; loss <= 50; loss++) {
            c.is("the loss", Check.loaded("P2005002" + loss / 10 + loss % 10 + "s4510w-4").about(3), loss);
        }
    }

    private static void slopes(Check c) {
        c.says(0, "then 1 to 6 slopes,");
        next(c, HEAD, "s", false);
        for (int n = 1; n < 6; n++) {
            next(c, HEAD + SIX.substring(0, 5 * n), "sgw", false);
            c.is("slopes", Check.loaded(HEAD + SIX.substring(0, 5 * n) + "w-4").about(4), n);
        }
        next(c, HEAD + SIX, "gw", false);
        c.is("six slopes", Check.loaded(HEAD + SIX + "w-4").about(4), 6);
    }

    private static void slopeDigits(Check c) {
        c.says(0, "each of them the letter s, the digit of the area (1 to 9), the digit of the rank, and two digits for the "
            + "target;");
        for (int n = 0; n < 6; n++) {
            String begin = HEAD + SIX.substring(0, 5 * n) + "s";
            next(c, begin, "123456789", false);
            next(c, begin + "9", DIGITS, false);
            next(c, begin + "10", DIGITS, false);
            next(c, begin + "109", DIGITS, false);
        }
        SnowGuns x = Check.loaded(HEAD + SIX + "w-4");
        int[][] want = {{4, 5, 10}, {9, 9, 99}, {1, 0, 0}, {2, 3, 5}, {3, 1, 60}, {5, 7, 77}};
        for (int s = 0; s < 6; s++) {
            for (int what = 0; what < 3; what++) {
                c.is("slope(" + s + ", " + what + ")", x.slope(s, what), want[s][what]);
            }
        }
    }

    private static void guns(Check c) {
        c.says(0, "then 0 to 8 guns,");
        for (int n = 0; n <= 8; n++) {
            String begin = HEAD + SIX + EIGHT.substring(0, 3 * n);
            next(c, begin, n < 8 ? "gw" : "w", false);
            c.is("guns", Check.loaded(begin + "w-4").about(5), n);
        }
        next(c, HEAD + "s4510g00", "gw", false);
    }

    private static void gunDigits(Check c) {
        c.says(0, "each of them the letter g, the digit of a slope that was told and the digit of the nozzle (0 to 3);");
        for (int n = 1; n <= 6; n++) {
            String begin = HEAD + SIX.substring(0, 5 * n) + "g";
            next(c, begin, DIGITS.substring(0, n), false);
            next(c, begin + (n - 1), "0123", false);
            next(c, begin + "03g", DIGITS.substring(0, n), false);
        }
        next(c, HEAD + SIX + EIGHT.substring(0, 21) + "g", "012345", false);
        next(c, HEAD + SIX + EIGHT.substring(0, 21) + "g5", "0123", false);
        SnowGuns x = Check.loaded(HEAD + SIX + EIGHT + "w-4");
        int[][] want = {{5, 3}, {4, 0}, {3, 1}, {2, 2}, {1, 3}, {0, 2}, {0, 1}, {0, 0}};
        for (int g = 0; g < 8; g++) {
            c.is("the slope of gun " + g, x.gun(g, 0), want[g][0]);
            c.is("the nozzle of gun " + g, x.gun(g, 1), want[g][1]);
        }
    }

    private static void temperatures(Check c) {
        c.says(0, "and then the letter w and 1 to 24 temperatures,");
        next(c, HEAD + "s4510w", "+-", false);
        for (int n = 1; n <= 24; n++) {
            String begin = HEAD + "s4510w" + "-4".repeat(n);
            next(c, begin, n < 24 ? "+-" : "", false);
            c.is("a right text", Check.written(begin).errorPosition(), SnowGuns.NONE);
        }
    }

    private static void signs(Check c) {
        c.says(0, "each of them a sign, + or -, and a digit (0 to 9; both signs are allowed with 0).");
        next(c, HEAD + "s4510w+", DIGITS, true);
        next(c, HEAD + "s4510w-", DIGITS, true);
        next(c, HEAD + SIX + EIGHT + "w" + "+9".repeat(23) + "+", DIGITS, true);
        next(c, HEAD + SIX + EIGHT + "w" + "-0".repeat(23) + "-", DIGITS, true);
        SnowGuns x = Check.loaded(HEAD + "s4510w+0-0+9-9+1-1");
        int[] want = {0, 0, 9, -9, 1, -1};
        for (int h = 0; h < 6; h++) {
            c.is("the temperature " + h, x.wet(h), want[h]);
        }
    }

    private static void noBlanks(Check c) {
        c.says(0, "There are no blanks.");
        String right = HEAD + "s4510g01w-4+5";
        for (int n = 0; n <= right.length(); n++) {
            String text = right.substring(0, n) + " " + right.substring(n);
            c.is("a blank at " + n, Check.written(text).errorPosition(), n);
        }
    }

    private static void leftToRight(Check c) {
        c.says(0, "The text is read from left to right.");
        c.is("slopes behind guns", Check.written(HEAD + "s4510g00s4510w-4").errorPosition(), 18);
        c.is("guns behind the weather", Check.written(HEAD + "s4510w-4g00").errorPosition(), 18);
        c.is("guns before the slopes", Check.written(HEAD + "g00s4510w-4").errorPosition(), 10);
        c.is("a gun at a slope that is told behind it", Check.written(HEAD + "s4510g10s4510w-4").errorPosition(), 16);
        c.is("the weather first", Check.written(HEAD + "w-4s4510").errorPosition(), 10);
    }

    private static void firstWrongSign(Check c) {
        c.says(0, "The error position is the index of the first character that these rules do not allow at its place");
        String right = HEAD + SIX + EIGHT + "w" + "-9".repeat(24);
        c.is("the longest right text", Check.written(right).errorPosition(), SnowGuns.NONE);
        for (int n = 0; n < right.length(); n++) {
            char[] signs = right.toCharArray();
            signs[n] = 'x';
            c.is("the wrong sign at " + n, Check.written(new String(signs)).errorPosition(), n);
            signs[signs.length - 1] = 'x';
            c.is("two wrong signs", Check.written(new String(signs)).errorPosition(), n);
        }
        c.is("the first sign behind it", Check.written(right + "-").errorPosition(), right.length());
        c.is("all that there is room for", Check.written(right + "-9w-9+0").errorPosition(), right.length());
    }

    private static void digits(Check c) {
        c.says(0, "(a digit is not allowed if no number that is allowed begins with it and those before it);");
        c.is("the loss 50", Check.written("P200500250s4510w-4").errorPosition(), SnowGuns.NONE);
        c.is("the loss 51: its second digit", Check.written("P200500251s4510w-4").errorPosition(), 9);
        c.is("the loss 59: its second digit", Check.written("P200500259s4510w-4").errorPosition(), 9);
        c.is("the loss 60: its first digit", Check.written("P200500260s4510w-4").errorPosition(), 8);
        c.is("the loss 49", Check.written("P200500249s4510w-4").errorPosition(), SnowGuns.NONE);
        c.is("the area 0", Check.written(HEAD + "s0510w-4").errorPosition(), 11);
    }

    private static void tooSoon(Check c) {
        c.says(0, "if the text ends too soon, it is the length of the text.");
        String right = HEAD + SIX + EIGHT + "w" + "+0".repeat(24);
        for (int n = 0; n < right.length(); n++) {
            boolean whole = n > 65 && (n - 65) % 2 == 0;
            int want = whole ? SnowGuns.NONE : n;
            c.is("the first " + n + " signs", Check.written(right.substring(0, n)).errorPosition(), want);
        }
    }

    private static void checked(Check c) {
        c.says(4, "Checks the text.");
        c.says(4, "Returns the error position of the text; NONE if it is a text as described above.");
        c.is("no text", new SnowGuns().errorPosition(), 0);
        c.is("the shortest right text", Check.written(HEAD + "s4510w-4").errorPosition(), SnowGuns.NONE);
        c.leavesNoTrace("errorPosition", Situations::used, SnowGuns::errorPosition);
        c.leavesNoTrace("errorPosition of a wrong text", Situations::full, SnowGuns::errorPosition);
    }

    /** What seen shows of an object that has just been loaded, up to the book. */
    private static String begin(SnowGuns x) {
        return Check.seen(x).replaceAll(" \\| book.*", "");
    }

    private static void loadLeast(Check c) {
        c.says(5, "Replaces everything by what the text tells;");
        SnowGuns x = Check.written("P000000000s1000w-0");
        x.addGun(x.addSlope(9, 9, 9), 3);
        x.pass(9);
        x.load();
        c.same("the least of all", begin(x), "about 0 0 0 0 1 0 1 0 0 1 0 0 0 0 | slope 1 0 0 0 0 1 0 | accounts 0 0 0 0 0 0");
    }

    private static void loadMost(Check c) {
        c.says(5, "there is no snow, all guns are allowed and cold, the pond is full, the book is empty, the hour and all "
            + "accounts are 0 (but account(0), which is the water in the pond).");
        String text = "P999999950" + "s9901".repeat(6) + "g53".repeat(8) + "w" + "-9".repeat(20) + "+9";
        String slope = " | slope 9 9 1 0 0 0 0";
        String want = "about 99 9999 9 50 6 8 21 9999 0 0 0 0 -9 3" + slope.repeat(5) + " | slope 9 9 1 0 0 0 8"
            + " | gun 5 3 1 0 0 0".repeat(8) + " | accounts 9999 0 0 0 0 0";
        c.same("the most of all", begin(Check.loaded(text)), want);
        c.is("the book", Check.loaded(text).book(0, 0), SnowGuns.NONE);
        SnowGuns x = Check.loaded(text);
        x.allow(3, false);
        x.allow(7, false);
        x.bring(0, 0);
        x.pass(20);
        x.set(1, 500);
        x.set(1, 600);
        x.pass(9);
        for (int what = 1; what <= 5; what++) {
            c.is("account(" + what + ") is more than 0", x.account(what) > 0 ? 1 : 0, 1);
        }
        c.is("there is an entry in the book", x.about(11) > 0 ? 1 : 0, 1);
        x.load();
        c.same("the same once more", begin(x), want);
        c.is("the book again", x.book(0, 0), SnowGuns.NONE);
    }

    private static void loadForgets(Check c) {
        c.says(5, "Forgets all remembered states and empties both save slots.");
        SnowGuns x = Situations.used();
        x.load();
        c.same("nothing is remembered", Traces.answer(x, SnowGuns::undo), "IllegalStateException");
        c.same("slot 0 is empty", Traces.answer(x, y -> y.restore(0)), "IllegalStateException");
        c.same("slot 1 is empty", Traces.answer(x, y -> y.restore(1)), "IllegalStateException");
        x.pass(1);
        c.is("only what comes behind it is remembered", x.undo(), 0);
        c.is("the hour then", x.about(8), 0);
    }

    private static void loadKeepsTheText(Check c) {
        c.says(5, "Keeps the text.");
        SnowGuns x = Situations.used();
        x.load();
        c.is("it is right still", x.errorPosition(), SnowGuns.NONE);
        c.is("and loads again", x.load(), 3);
        c.is("its length", x.clearText(), 45);
    }

    private static void loadCounts(Check c) {
        c.says(5, "Returns the number of slopes.");
        for (int n = 1; n <= 6; n++) {
            c.is("load", Check.written(HEAD + SIX.substring(0, 5 * n) + "w-4").load(), n);
        }
    }

    private static void loadRefuses(Check c) {
        c.says(5, "Throws `IllegalStateException` if the text is not as described above");
        String right = HEAD + "s4510g01w-4+5";
        for (int n = 0; n < right.length(); n++) {
            String text = right.substring(0, n);
            if (n != right.length() - 2) {
                c.refused("load of " + text, () -> Check.written(text), IllegalStateException.class, SnowGuns::load);
            }
        }
        c.refused("load of a text with one sign more", () -> Check.written(right + "x"), IllegalStateException.class,
            SnowGuns::load);
        c.refused("load of 120 signs", Situations::full, IllegalStateException.class, SnowGuns::load);
        c.refused("load in a state that was used", () -> {
            SnowGuns x = Situations.used();
            x.append('+');
            return x;
        }, IllegalStateException.class, SnowGuns::load);
    }
}
