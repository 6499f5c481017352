/** Promises 2 to 5: append, clearText, errorPosition, load. */
public final class TextTest {
    private static final String HEAD = "P200500210";
    private static final String SIX = "s1000s2111s3222s4333s5444s6555";

    public static void main(String[] args) {
        Check c = new Check();
        append(c);
        clear(c);
        errorPositions(c);
        load(c);
        loadForgets(c);
        loadRefuses(c);
        c.end("TextTest");
    }

    private static void append(Check c) {
        SnowGuns x = new SnowGuns();
        c.wrongArgument("append(-1)", x, () -> x.append(-1));
        c.wrongArgument("append(256)", x, () -> x.append(256));
        c.wrongArgument("append(least)", x, () -> x.append(Integer.MIN_VALUE));
        c.wrongArgument("append(greatest)", x, () -> x.append(Integer.MAX_VALUE));
        c.is("append(0)", x.append(0), 1);
        c.is("append(255)", x.append(255), 2);
        for (int n = 3; n <= 120; n++) {
            c.is("append, length " + n, x.append('P'), n);
        }
        c.wrongState("append to 120", x, () -> x.append('P'));
        c.wrongArgument("the argument goes first", x, () -> x.append(256));
        c.is("its length stays", x.clearText(), 120);
    }

    private static void clear(Check c) {
        SnowGuns x = Check.written("Pab");
        c.is("the length before", x.clearText(), 3);
        c.is("empty then", x.clearText(), 0);
        c.is("no letter stays", x.errorPosition(), 0);
        c.is("append begins anew", x.append('P'), 1);
        c.is("at the end", x.errorPosition(), 1);
    }

    private static void position(Check c, String text, int want) {
        c.is("errorPosition of " + text, Check.written(text).errorPosition(), want);
    }

    private static void errorPositions(Check c) {
        String good = HEAD + "s4510g01w-4";
        position(c, good, SnowGuns.NONE);
        for (int n = 0; n < good.length(); n++) {
            position(c, good.substring(0, n), n);
            position(c, good.substring(0, n) + " " + good.substring(n), n);
            position(c, good.substring(0, n) + (char) 255, n);
            position(c, good.substring(0, n) + (char) 0 + good.substring(n), n);
        }
        position(c, good + "x", good.length());
        position(c, good + "-", good.length() + 1);
        position(c, "p" + good.substring(1), 0);
        losses(c);
        position(c, HEAD + "S", 10);
        position(c, HEAD + "g", 10);
        position(c, HEAD + "w", 10);
        position(c, HEAD + "s0", 11);
        position(c, HEAD + "s:", 11);
        position(c, HEAD + "s1/", 12);
        position(c, HEAD + "s10:", 13);
        position(c, HEAD + "s100-", 14);
        position(c, HEAD + "s1000w-4", SnowGuns.NONE);
        slopesAndGuns(c);
        weathers(c);
        leftOut(c);
    }

    private static void leftOut(Check c) {
        position(c, "s1000w-4", 0);
        position(c, "w-4", 0);
        position(c, "P20s1000w-4", 3);
        position(c, "P2005002s1000w-4", 8);
        position(c, "P20050021s1000w-4", 9);
        position(c, HEAD + "s45w-4", 13);
        position(c, HEAD + "s1000s45w-4", 18);
        position(c, HEAD + "s1000sw-4", 16);
        position(c, HEAD + "s1000gw-4", 16);
        position(c, HEAD + "s1000g0w-4", 17);
        position(c, HEAD + "s1000g00g0w-4", 20);
        position(c, HEAD + "s1000g00", 18);
    }

    private static void losses(Check c) {
        String rest = "s4510w-4";
        for (int loss = 0; loss <= 99; loss++) {
            String text = "P2005002" + loss / 10 + loss % 10 + rest;
            position(c, text, loss <= 50 ? SnowGuns.NONE : loss < 60 ? 9 : 8);
        }
        position(c, "P20050025", 9);
        position(c, "P20050025:", 9);
        position(c, "P2005002/", 8);
        position(c, "P000000000" + rest, SnowGuns.NONE);
        position(c, "P999999950" + rest, SnowGuns.NONE);
    }

    private static void slopesAndGuns(Check c) {
        position(c, HEAD + SIX + "w-4", SnowGuns.NONE);
        position(c, HEAD + SIX + "s1000w-4", 40);
        position(c, HEAD + SIX + "g53w-4", SnowGuns.NONE);
        position(c, HEAD + SIX + "g60w-4", 41);
        position(c, HEAD + "s1000g10w-4", 16);
        position(c, HEAD + "s1000s1000g10w-4", SnowGuns.NONE);
        position(c, HEAD + "s1000s1000g20w-4", 21);
        position(c, HEAD + "s1000g04w-4", 17);
        position(c, HEAD + "s1000g03w-4", SnowGuns.NONE);
        position(c, HEAD + "s1000g0/w-4", 17);
        position(c, HEAD + "s1000g/0w-4", 16);
        position(c, HEAD + "s1000g00s1000w-4", 18);
        position(c, HEAD + "s1000" + "g00".repeat(8) + "w-4", SnowGuns.NONE);
        position(c, HEAD + "s1000" + "g00".repeat(9) + "w-4", 39);
    }

    private static void weathers(Check c) {
        String start = HEAD + "s1000w";
        position(c, start, 16);
        position(c, start + "4", 16);
        position(c, start + "+", 17);
        position(c, start + "+:", 17);
        position(c, start + "+/", 17);
        position(c, start + "+0-0", SnowGuns.NONE);
        position(c, start + "+9-9", SnowGuns.NONE);
        position(c, start + "+9w", 18);
        position(c, start + "+9g00", 18);
        position(c, start + "+9,9", 18);
        position(c, start + "-1".repeat(24), SnowGuns.NONE);
        position(c, start + "-1".repeat(24) + "-", 64);
        position(c, start + "-1".repeat(25), 64);
        position(c, HEAD + SIX + "g00".repeat(8) + "w" + "+1".repeat(24), SnowGuns.NONE);
    }

    private static void load(Check c) {
        SnowGuns x = Check.written("P120345633s9807s1099g13g00w-9+9-0+0+1");
        c.is("load", x.load(), 2);
        StringBuilder want = new StringBuilder("about 12 345 6 33 2 2 5 345 0 0 0 0 -9 3");
        want.append(" | slope 9 8 7 0 0 0 1 | slope 1 0 99 0 0 0 1 | gun 1 3 1 0 0 0 | gun 0 0 1 0 0 0");
        want.append(" | accounts 345 0 0 0 0 0 | book");
        want.append(" -9999@-9999".repeat(21)).append(" | wets -9 9 0 0 1 | text -9999");
        c.same("what is loaded", Check.seen(x), want.toString());
        c.is("the text is kept", x.clearText(), 37);
        c.is("six slopes", Check.written(HEAD + SIX + "w-4").load(), 6);
        SnowGuns y = Check.loaded("P990000950s1000g00g01g02g03g00g01g02g03w+9");
        c.is("capacity 0", y.about(7), 0);
        c.is("eight guns", y.about(5), 8);
        c.is("ready by a target of 0", y.about(9), 1);
    }

    private static void loadForgets(Check c) {
        SnowGuns x = Check.written("P120010633s1101g00w-9+9");
        c.is("load", x.load(), 1);
        String fresh = Check.seen(x);
        x.pass(20);
        x.set(1, 5);
        x.fill(9);
        x.allow(0, false);
        x.setWet(0, 3);
        x.addGun(x.addSlope(4, 5, 6), 2);
        x.save(0);
        x.save(1);
        c.is("load again", x.load(), 1);
        c.same("what is loaded again", Check.seen(x), fresh);
        loadForgetsSums(c);
        c.wrongState("no undo behind load", x, x::undo);
        c.wrongState("slot 0 is empty", x, () -> x.restore(0));
        c.wrongState("slot 1 is empty", x, () -> x.restore(1));
        c.is("load is no action", x.fill(1), 0);
        c.is("one undo", x.undo(), 0);
    }

    private static void loadForgetsSums(Check c) {
        SnowGuns x = Check.loaded("P990100325s1003s5101g01g10g13w-9-9-9+5");
        String fresh = Check.seen(x);
        x.pass(8);
        c.is("entries in the book", x.about(11) > 0 ? 1 : 0, 1);
        for (int what = 1; what <= 3; what++) {
            c.is("account(" + what + ") has grown", x.account(what) > 0 ? 1 : 0, 1);
        }
        x.set(1, 5);
        x.pass(1);
        c.is("load again", x.load(), 2);
        c.same("no sums behind load", Check.seen(x), fresh);
    }

    private static void loadRefuses(Check c) {
        SnowGuns x = Check.written("P120010633s1101g00w-9+9-");
        x.pass(3);
        x.save(1);
        x.fill(7);
        c.wrongState("load of a wrong text", x, x::load);
        c.is("the history stays", x.undo(), 1);
        c.is("the slot stays", x.restore(1), 3);
        SnowGuns y = new SnowGuns();
        c.wrongState("load of no text", y, y::load);
    }
}
