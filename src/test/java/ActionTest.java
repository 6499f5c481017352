import java.util.List;
import java.util.function.ToIntFunction;

/** Promises 13 to 22: set, fill, setWet, setSlope, addSlope, removeSlope, addGun, bring, allow, undo. */
public final class ActionTest {
    private static final int LEAST = Integer.MIN_VALUE;
    private static final int GREATEST = Integer.MAX_VALUE;

    public static void main(String[] args) {
        Check c = new Check();
        set(c);
        spill(c);
        fill(c);
        setWet(c);
        setSlope(c);
        addSlope(c);
        removeSlope(c);
        removeBeforeTheFirstGun(c);
        removeEverySlope(c);
        addGun(c);
        addGunAnew(c);
        bring(c);
        allow(c);
        refusedIsNoAction(c);
        undoEachKind(c);
        undoFourteen(c);
        undoKeepsTextAndSlots(c);
        c.end("ActionTest");
    }

    private static void set(Check c) {
        SnowGuns x = new SnowGuns();
        int[] first = {20, 500, 2, 10};
        int[] most = {99, 9999, 9, 50};
        for (int what = 0; what < 4; what++) {
            int w = what;
            c.is("set(" + w + ", 0)", x.set(w, 0), first[w]);
            c.is("the least of " + w, x.about(w), 0);
            c.is("set(" + w + ", most)", x.set(w, most[w]), 0);
            c.is("the most of " + w, x.about(w), most[w]);
            c.is("the same of " + w, x.set(w, most[w]), most[w]);
            for (int v : new int[] {-1, most[w] + 1, LEAST, GREATEST}) {
                c.wrongArgument("set(" + w + ", " + v + ")", x, () -> x.set(w, v));
            }
        }
        for (int what : new int[] {-1, 4, LEAST, GREATEST}) {
            c.wrongArgument("set(" + what + ", 0)", x, () -> x.set(what, 0));
        }
    }

    private static void spill(Check c) {
        SnowGuns x = new SnowGuns();
        x.set(1, 9999);
        pond(c, x, 500, 0);
        x.set(1, 501);
        pond(c, x, 500, 0);
        x.set(1, 500);
        pond(c, x, 500, 0);
        x.set(1, 300);
        pond(c, x, 300, 200);
        x.set(1, 400);
        pond(c, x, 300, 200);
        x.set(0, 7);
        x.set(2, 7);
        x.set(3, 7);
        pond(c, x, 300, 200);
        x.set(1, 0);
        pond(c, x, 0, 500);
        c.is("what came", x.account(0), 500);
        c.is("nothing in the ground", x.account(2), 0);
    }

    private static void pond(Check c, SnowGuns x, int pond, int spilled) {
        c.is("the pond", x.about(7), pond);
        c.is("what was spilled", x.account(5), spilled);
    }

    private static void fill(Check c) {
        SnowGuns x = new SnowGuns();
        c.is("a full pond", x.fill(9999), 0);
        x.set(1, 9999);
        c.is("fill(1)", x.fill(1), 1);
        c.is("fill(9000)", x.fill(9000), 9000);
        c.is("what came", x.account(0), 9501);
        c.is("the rest", x.fill(9999), 498);
        c.is("the pond", x.about(7), 9999);
        c.is("what came then", x.account(0), 9999);
        for (int units : new int[] {0, -1, 10000, LEAST, GREATEST}) {
            c.wrongArgument("fill(" + units + ")", x, () -> x.fill(units));
        }
    }

    private static void setWet(Check c) {
        SnowGuns x = new SnowGuns();
        c.is("setWet(0, -9)", x.setWet(0, -9), -4);
        c.is("setWet(0, 9)", x.setWet(0, 9), -9);
        c.is("setWet(23, 0)", x.setWet(23, 0), -4);
        c.is("the first", x.wet(24), 9);
        c.is("the last", x.wet(47), 0);
        c.is("another", x.wet(22), -4);
        for (int i : new int[] {-1, 24, LEAST, GREATEST}) {
            c.wrongArgument("setWet(" + i + ", 0)", x, () -> x.setWet(i, 0));
        }
        for (int v : new int[] {-10, 10, LEAST, GREATEST}) {
            c.wrongArgument("setWet(1, " + v + ")", x, () -> x.setWet(1, v));
        }
        SnowGuns y = Check.loaded("P200500210s4510w-4+5");
        c.is("the last of two", y.setWet(1, -2), 5);
        c.wrongArgument("behind the last of two", y, () -> y.setWet(2, 0));
    }

    private static void setSlope(Check c) {
        SnowGuns x = Check.loaded("P200500000s4510s3612w+0");
        c.is("rank 0", x.setSlope(0, 1, 0), 5);
        c.is("rank 9", x.setSlope(0, 1, 9), 0);
        c.is("target 99", x.setSlope(1, 2, 99), 12);
        c.is("target 0", x.setSlope(1, 2, 0), 99);
        c.is("the rank is set", x.slope(0, 1), 9);
        c.is("the target of the other stays", x.slope(0, 2), 10);
        c.is("the rank of the other stays", x.slope(1, 1), 6);
        c.is("it is ready", x.slope(1, 5), 1);
        c.is("not in the book", x.about(11), 0);
        x.pass(2);
        c.is("nor an hour later", x.about(11), 0);
        for (int v : new int[] {-1, 10, LEAST, GREATEST}) {
            c.wrongArgument("the rank " + v, x, () -> x.setSlope(0, 1, v));
        }
        for (int v : new int[] {-1, 100, LEAST, GREATEST}) {
            c.wrongArgument("the target " + v, x, () -> x.setSlope(0, 2, v));
        }
        for (int what : new int[] {-1, 0, 3, 4, LEAST, GREATEST}) {
            c.wrongArgument("setSlope(0, " + what + ", 5)", x, () -> x.setSlope(0, what, 5));
        }
        for (int s : new int[] {-1, 2, LEAST, GREATEST}) {
            c.wrongIndex("setSlope(" + s + ", 1, 5)", x, () -> x.setSlope(s, 1, 5));
            c.wrongIndex("setSlope(" + s + ", 7, -5)", x, () -> x.setSlope(s, 7, -5));
        }
    }

    private static void addSlope(Check c) {
        SnowGuns x = new SnowGuns();
        wrongSlopes(c, x);
        c.is("the second", x.addSlope(1, 0, 0), 1);
        c.is("the third", x.addSlope(9, 9, 99), 2);
        int[] want = {9, 9, 99, 0, 0, 0, 0};
        for (int what = 0; what < want.length; what++) {
            c.is("slope(2, " + what + ")", x.slope(2, what), want[what]);
        }
        c.is("the target of the second is 0", x.slope(1, 5), 1);
        c.is("the book stays empty", x.about(11), 0);
        for (int s = 3; s < 6; s++) {
            c.is("slope " + s, x.addSlope(5, 5, 5), s);
        }
        c.wrongState("a seventh", x, () -> x.addSlope(5, 5, 5));
        wrongSlopes(c, x);
        SnowGuns y = Check.loaded("P990999000s1599g03w-9");
        y.addSlope(1, 1, 1);
        y.bring(0, 1);
        y.pass(2);
        y.bring(0, 0);
        y.removeSlope(1);
        y.addSlope(1, 1, 1);
        c.is("no old snow on a new slope", y.slope(1, 3), 0);
    }

    private static void wrongSlopes(Check c, SnowGuns x) {
        int[][] wrong = {{0, 5, 5}, {10, 5, 5}, {-1, 5, 5}, {5, -1, 5}, {5, 10, 5}, {5, 5, -1}, {5, 5, 100},
            {LEAST, 5, 5}, {GREATEST, 5, 5}, {5, LEAST, 5}, {5, GREATEST, 5}, {5, 5, LEAST}, {5, 5, GREATEST}};
        for (int[] w : wrong) {
            c.wrongArgument("addSlope(" + w[0] + ", " + w[1] + ", " + w[2] + ")", x, () -> x.addSlope(w[0], w[1], w[2]));
        }
    }

    /** Slopes 0, 2 and 3 become ready in the hour 2; the guns stand at 0, 2 and 3. */
    private static SnowGuns threeReady() {
        SnowGuns x = Check.loaded("P990999000s1001s1999s2103s4000s1001g00g23g40w-9");
        x.pass(2);
        return x;
    }

    private static void removeSlope(Check c) {
        SnowGuns x = threeReady();
        c.is("three entries", x.about(11), 3);
        c.wrongState("a slope with a gun", x, () -> x.removeSlope(2));
        for (int s : new int[] {-1, 5, 6, LEAST, GREATEST}) {
            c.wrongIndex("removeSlope(" + s + ")", x, () -> x.removeSlope(s));
        }
        x.bring(1, 0);
        c.is("its snow", x.removeSlope(2), 12);
        c.is("went with it", x.account(5), 12);
        c.is("what lies still", x.account(4), 6);
        c.is("slopes", x.about(4), 4);
        c.is("the gun of a later one", x.gun(2, 0), 3);
        c.is("the gun of an earlier one", x.gun(0, 0), 0);
        c.is("the gun that was brought", x.gun(1, 0), 0);
        c.is("the later one's target", x.slope(3, 2), 1);
        c.is("the one between", x.slope(2, 0), 4);
        c.is("the earlier one's rank", x.slope(1, 1), 9);
        c.is("two entries", x.about(11), 2);
        c.is("the latest", x.book(0, 0), 3);
        c.is("its hour", x.book(0, 1), 2);
        c.is("the other", x.book(1, 0), 0);
        c.is("no third", x.book(2, 0), SnowGuns.NONE);
        c.is("a slope without snow", x.removeSlope(1), 0);
        c.is("account(5) stays", x.account(5), 12);
        c.is("the gun again", x.gun(2, 0), 2);
        c.is("the entry again", x.book(0, 0), 2);
    }

    private static void removeBeforeTheFirstGun(Check c) {
        SnowGuns x = Check.loaded("P990999000s1999s2102g10w-9");
        x.removeSlope(0);
        c.is("its slope's number decreases", x.gun(0, 0), 0);
        c.is("the gun makes snow there", x.pass(2), 3);
        c.is("the snow", x.slope(0, 3), 3);
    }

    private static void removeEverySlope(Check c) {
        SnowGuns x = Check.loaded("P200500210s4500s1510w-4");
        c.is("one of two", x.removeSlope(0), 0);
        c.is("the other is the first now", x.slope(0, 0), 1);
        c.is("the last one", x.removeSlope(0), 0);
        c.is("no slope", x.about(4), 0);
        c.is("none ready", x.about(9), 0);
        c.wrongIndex("slope 0", x, () -> x.slope(0, 0));
        c.wrongIndex("removeSlope(0)", x, () -> x.removeSlope(0));
        c.wrongIndex("addGun(0, 0)", x, () -> x.addGun(0, 0));
        c.wrongIndex("readyAfter(0)", x, () -> x.readyAfter(0));
        c.is("an hour without slopes", x.pass(1), 0);
        c.is("no order", x.order(0), SnowGuns.NONE);
        c.is("nothing is missing", x.missing(9), 0);
        c.is("a new one", x.addSlope(3, 4, 5), 0);
    }

    private static void addGun(Check c) {
        SnowGuns x = new SnowGuns();
        x.addSlope(1, 2, 3);
        c.is("the second", x.addGun(1, 3), 1);
        int[] want = {1, 3, 1, 0, 0, 0};
        for (int what = 0; what < want.length; what++) {
            c.is("gun(1, " + what + ")", x.gun(1, what), want[what]);
        }
        wrongGuns(c, x);
        for (int g = 2; g < 8; g++) {
            c.is("gun " + g, x.addGun(0, 0), g);
        }
        c.is("eight guns", x.about(5), 8);
        c.wrongState("a ninth", x, () -> x.addGun(0, 0));
        wrongGuns(c, x);
    }

    private static void addGunAnew(Check c) {
        SnowGuns x = Check.loaded("P990999000s9999g00w-9");
        x.addGun(0, 3);
        x.allow(1, false);
        x.allow(1, true);
        x.pass(3);
        x.allow(1, false);
        while (x.about(5) > 1) {
            x.undo();
        }
        c.is("the second once more", x.addGun(0, 1), 1);
        int[] want = {0, 1, 1, 0, 0, 0};
        for (int what = 0; what < want.length; what++) {
            c.is("the new gun(1, " + what + ")", x.gun(1, what), want[what]);
        }
    }

    private static void wrongGuns(Check c, SnowGuns x) {
        for (int s : new int[] {-1, 2, LEAST, GREATEST}) {
            c.wrongIndex("addGun(" + s + ", 0)", x, () -> x.addGun(s, 0));
            c.wrongIndex("addGun(" + s + ", 4)", x, () -> x.addGun(s, 4));
        }
        for (int nozzle : new int[] {-1, 4, LEAST, GREATEST}) {
            c.wrongArgument("addGun(0, " + nozzle + ")", x, () -> x.addGun(0, nozzle));
        }
    }

    private static void bring(Check c) {
        SnowGuns x = Check.loaded("P990999000s9599s9599g01g10w-9");
        x.pass(3);
        c.is("bring(0, 1)", x.bring(0, 1), 0);
        int[] want = {1, 1, 1, 0, 12, 2};
        for (int what = 0; what < want.length; what++) {
            c.is("gun(0, " + what + ")", x.gun(0, what), want[what]);
        }
        c.is("the other runs", x.gun(1, 3), 2);
        c.is("bring(1, 1)", x.bring(1, 1), 1);
        c.is("cold by the same slope", x.gun(1, 3), 0);
        c.is("both warm", x.pass(1), 0);
        c.is("not allowed stays so", x.allow(1, false), 1);
        x.bring(1, 0);
        c.is("after bring, too", x.gun(1, 2), 0);
        for (int n : new int[] {-1, 2, 8, LEAST, GREATEST}) {
            c.wrongIndex("bring(" + n + ", 0)", x, () -> x.bring(n, 0));
            c.wrongIndex("bring(0, " + n + ")", x, () -> x.bring(0, n));
        }
    }

    private static void allow(Check c) {
        SnowGuns x = Check.loaded("P990999000s9599g00g00g00w-9");
        c.is("allow(1, false)", x.allow(1, false), 2);
        c.is("the same", x.allow(1, false), 2);
        c.is("allow(2, false)", x.allow(2, false), 1);
        c.is("it is not allowed", x.gun(1, 2), 0);
        c.is("another one is", x.gun(0, 2), 1);
        c.is("allow(1, true)", x.allow(1, true), 2);
        c.is("it is allowed", x.gun(1, 2), 1);
        x.pass(2);
        c.is("allow(0, false)", x.allow(0, false), 1);
        c.is("it runs still", x.gun(0, 3), 2);
        x.pass(1);
        c.is("until the next hour", x.gun(0, 3), 0);
        x.addGun(0, 0);
        x.undo();
        c.is("no gun that was taken back", x.allow(0, true), 2);
        for (int g : new int[] {-1, 3, 8, LEAST, GREATEST}) {
            c.wrongIndex("allow(" + g + ")", x, () -> x.allow(g, true));
        }
    }

    private static void refusedIsNoAction(Check c) {
        SnowGuns x = new SnowGuns();
        c.wrongArgument("pass", x, () -> x.pass(0));
        c.wrongArgument("set", x, () -> x.set(0, 100));
        c.wrongArgument("fill", x, () -> x.fill(0));
        c.wrongArgument("setWet", x, () -> x.setWet(24, 0));
        c.wrongArgument("setSlope", x, () -> x.setSlope(0, 1, 10));
        c.wrongArgument("addSlope", x, () -> x.addSlope(0, 0, 0));
        c.wrongState("removeSlope", x, () -> x.removeSlope(0));
        c.wrongArgument("addGun", x, () -> x.addGun(0, 4));
        c.wrongIndex("bring", x, () -> x.bring(0, 1));
        c.wrongIndex("allow", x, () -> x.allow(1, true));
        c.wrongState("nothing to undo", x, x::undo);
    }

    private static void undoEachKind(Check c) {
        List<ToIntFunction<SnowGuns>> actions = List.of(
            x -> x.pass(9), x -> x.set(0, 0), x -> x.set(1, 9), x -> x.set(2, 9), x -> x.set(3, 9), x -> x.fill(3),
            x -> x.setWet(0, 9), x -> x.setSlope(1, 1, 3), x -> x.setSlope(1, 2, 3), x -> x.addSlope(9, 9, 9),
            x -> x.removeSlope(1), x -> x.addGun(1, 3), x -> x.bring(0, 1), x -> x.allow(0, false));
        for (int i = 0; i < actions.size(); i++) {
            SnowGuns x = threeReady();
            String before = Check.seen(x);
            actions.get(i).applyAsInt(x);
            c.is("action " + i + " changes something", Check.seen(x).equals(before) ? 1 : 0, 0);
            c.is("undo of action " + i, x.undo(), 1);
            c.same("the state after undo of action " + i, Check.seen(x), before);
        }
        List<ToIntFunction<SnowGuns>> idle = List.of(
            x -> x.set(0, x.about(0)), x -> x.setWet(0, x.wet(0)), x -> x.setSlope(0, 1, x.slope(0, 1)),
            x -> x.allow(0, true));
        for (int i = 0; i < idle.size(); i++) {
            SnowGuns x = threeReady();
            idle.get(i).applyAsInt(x);
            c.is("without effect, but an action: " + i, x.undo(), 1);
        }
    }

    private static void undoFourteen(Check c) {
        SnowGuns x = new SnowGuns();
        for (int v = 1; v <= 40; v++) {
            x.set(0, v);
        }
        for (int left = 13; left >= 0; left--) {
            c.is("undo, left " + left, x.undo(), left);
            c.is("the pump then", x.about(0), 26 + left);
        }
        c.wrongState("a fifteenth undo", x, x::undo);
        x.set(0, 50);
        x.set(0, 51);
        c.is("undo is no action", x.undo(), 1);
        c.is("back to the first", x.about(0), 50);
        c.is("and on", x.undo(), 0);
        c.is("back to before", x.about(0), 26);
        c.wrongState("no more", x, x::undo);
    }

    private static void undoKeepsTextAndSlots(Check c) {
        SnowGuns x = new SnowGuns();
        x.append('P');
        x.pass(4);
        x.append('1');
        x.save(1);
        c.is("one state: text and slots are no actions", x.undo(), 0);
        c.is("the text stays", x.clearText(), 2);
        c.is("the slot stays", x.restore(1), 4);
    }
}
