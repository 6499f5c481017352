/** Promises 32 and 33: save, restore. */
public final class SlotTest {
    private static final int[] WRONG = {-1, 2, Integer.MIN_VALUE, Integer.MAX_VALUE};

    public static void main(String[] args) {
        Check c = new Check();
        twoSlots(c);
        everythingComesBack(c);
        history(c);
        wrongSlots(c);
        c.end("SlotTest");
    }

    private static void twoSlots(Check c) {
        SnowGuns x = new SnowGuns();
        c.is("save(0)", x.save(0), 0);
        c.wrongState("the other is empty", x, () -> x.restore(1));
        x.pass(7);
        c.is("save(1)", x.save(1), 7);
        x.pass(9);
        c.is("restore(0)", x.restore(0), 0);
        c.is("restore(1)", x.restore(1), 7);
        c.is("the hour", x.about(8), 7);
        x.pass(2);
        c.is("the slot keeps it", x.restore(1), 7);
        x.pass(1);
        c.is("save again", x.save(1), 8);
        x.pass(1);
        c.is("the newer one", x.restore(1), 8);
        c.is("the other stays", x.restore(0), 0);
    }

    private static void everythingComesBack(Check c) {
        SnowGuns x = Check.loaded("P990100325s1001s9912g00g13g12w-9-9+5");
        x.pass(8);
        x.set(1, 60);
        x.allow(1, false);
        x.append('z');
        String before = Check.seen(x);
        c.is("entries in the book", x.about(11) > 0 ? 1 : 0, 1);
        x.save(0);
        c.same("save changes nothing", Check.seen(x), before);
        x.pass(5);
        x.set(0, 3);
        x.set(1, 70);
        x.set(2, 3);
        x.set(3, 3);
        x.fill(5);
        x.setWet(1, 3);
        x.allow(1, true);
        x.bring(0, 1);
        x.removeSlope(0);
        x.addGun(0, 1);
        x.addSlope(4, 4, 4);
        x.addSlope(5, 5, 5);
        x.restore(0);
        c.same("all is as before", Check.seen(x), before);
        x.clearText();
        x.restore(0);
        c.is("the text is no part of it", x.clearText(), 0);
    }

    private static void history(Check c) {
        SnowGuns x = new SnowGuns();
        x.pass(1);
        x.save(0);
        x.pass(1);
        c.is("save is no action", x.undo(), 1);
        x.restore(0);
        c.wrongState("restore forgets all", x, x::undo);
        x.restore(0);
        c.wrongState("and is no action", x, x::undo);
        x.pass(1);
        c.is("actions behind it are remembered", x.undo(), 0);
        c.is("the hour then", x.about(8), 1);
        x.pass(3);
        c.wrongState("a slot that is empty", x, () -> x.restore(1));
        c.is("keeps the history", x.undo(), 0);
    }

    private static void wrongSlots(Check c) {
        SnowGuns x = new SnowGuns();
        for (int slot : WRONG) {
            c.wrongIndex("save(" + slot + ")", x, () -> x.save(slot));
            c.wrongIndex("restore(" + slot + ")", x, () -> x.restore(slot));
        }
        x.pass(1);
        c.wrongState("restore of an empty slot", x, () -> x.restore(0));
        c.is("the action before it can still be undone", x.undo(), 0);
    }
}
