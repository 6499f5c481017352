import java.util.ArrayList;
import java.util.List;
import java.util.function.ToIntFunction;

/** The terms: actions and undo; promises 22, 32 and 33: undo, save, restore. */
final class UndoEdges {
    private static final Class<IllegalStateException> STATE = IllegalStateException.class;

    /** Each action once, in a state as Situations.used has it; all of them change something there. */
    private static final List<ToIntFunction<SnowGuns>> ACTIONS = List.of(
        x -> x.pass(1), x -> x.pass(99), x -> x.set(0, 0), x -> x.set(1, 0), x -> x.set(1, 9999), x -> x.set(2, 0),
        x -> x.set(3, 50), x -> x.fill(1), x -> x.setWet(4, 9), x -> x.setSlope(0, 1, 9), x -> x.setSlope(2, 2, 99),
        x -> x.addSlope(1, 1, 0), x -> x.removeSlope(1), x -> x.addGun(1, 3), x -> x.bring(2, 0), x -> x.bring(0, 1),
        x -> x.allow(0, true), x -> x.allow(2, false));

    /** Actions after which nothing is different. */
    private static final List<ToIntFunction<SnowGuns>> IDLE = List.of(
        x -> x.set(0, x.about(0)), x -> x.set(1, x.about(1)), x -> x.set(2, x.about(2)), x -> x.set(3, x.about(3)),
        x -> x.setWet(0, x.wet(0)), x -> x.setSlope(0, 1, x.slope(0, 1)), x -> x.setSlope(0, 2, x.slope(0, 2)),
        x -> x.bring(0, x.gun(0, 0)), x -> x.allow(0, x.gun(0, 2) == 1));

    private UndoEdges() {
    }

    static void run(Check c) {
        everythingButTextAndSlots(c);
        fullBookComesBack(c);
        otherCallsAreNone(c);
        alsoIfNothingBecomesDifferent(c);
        undoIsNone(c);
        beforeEachAction(c);
        atMostFourteen(c);
        roundTheEnd(c);
        loadAndRestoreAreNone(c);
        undo(c);
        nothingRemembered(c);
        save(c);
        saveAnew(c);
        noSuchSlot(c);
        restore(c);
        restoreForgets(c);
        slotKeeps(c);
        nothingSaved(c);
    }

    private static void everythingButTextAndSlots(Check c) {
        c.says(0, "The methods in the section \"actions\" change the state, which consists of everything but the text and the "
            + "save slots.");
        SnowGuns x = Situations.used();
        String before = Check.seen(x);
        x.pass(3);
        x.append('-');
        x.append('9');
        x.save(1);
        c.is("undo", x.undo(), 13);
        c.same("the state", Check.seen(x), before);
        c.is("the text stays", x.clearText(), 47);
        c.is("the slot stays", x.restore(1), 20);
        c.is("the other slot stays", x.restore(0), 2);
    }

    /** The oldest ones of its 20 entries go, and come back. */
    private static void fullBookComesBack(Check c) {
        c.says(0, "the state, which consists of everything but the text and the save slots.");
        String before = Check.seen(Situations.full());
        SnowGuns x = Situations.full();
        c.is("the book is full", x.about(11), 20);
        x.pass(9);
        c.is("the latest entry is another one", x.book(0, 1) > 48 ? 1 : 0, 1);
        x.undo();
        c.same("undo", Check.seen(x), before);
        SnowGuns y = Situations.full();
        y.save(0);
        y.pass(9);
        y.restore(0);
        c.same("restore", Check.seen(y), before);
    }

    /** Calls of the other sections that change the text or a slot, behind one action. */
    private static void otherCallsAreNone(Check c) {
        c.says(0, "The methods in the section \"actions\" change the state,");
        List<ToIntFunction<SnowGuns>> others = List.of(x -> x.append('P'), x -> x.append(255), SnowGuns::clearText,
            SnowGuns::errorPosition, x -> x.save(0), x -> x.save(1));
        for (int i = 0; i < others.size(); i++) {
            SnowGuns x = Check.loaded("P600100325s4510s3799g00g11w-9-5");
            String before = Check.seen(x).replaceAll("text.*", "");
            x.pass(2);
            String behind = Check.seen(x).replaceAll("text.*", "");
            others.get(i).applyAsInt(x);
            c.same("the state behind call " + i, Check.seen(x).replaceAll("text.*", ""), behind);
            c.is("undo behind call " + i, x.undo(), 0);
            c.same("the state then, call " + i, Check.seen(x).replaceAll("text.*", ""), before);
        }
    }

    private static void alsoIfNothingBecomesDifferent(Check c) {
        c.says(0, "Each call of one of them that does not throw an exception is an action, also if nothing becomes different");
        for (int i = 0; i < IDLE.size(); i++) {
            SnowGuns x = Check.loaded("P600100325s4510s3799g00g11w-9-5");
            String before = Check.seen(x);
            IDLE.get(i).applyAsInt(x);
            c.same("idle action " + i + " changes nothing", Check.seen(x), before);
            IDLE.get(i).applyAsInt(x);
            c.is("the second time of idle action " + i, x.undo(), 1);
            c.is("the first time of idle action " + i, x.undo(), 0);
            c.same("no third time", Traces.answer(x, SnowGuns::undo), "IllegalStateException");
        }
        SnowGuns full = new SnowGuns();
        c.is("a filling that brings nothing", full.fill(5), 0);
        c.is("is an action", full.undo(), 0);
    }

    private static void undoIsNone(Check c) {
        c.says(0, "(undo is none).");
        SnowGuns x = new SnowGuns();
        x.set(0, 1);
        x.set(0, 2);
        x.set(0, 3);
        for (int left = 2; left >= 0; left--) {
            c.is("undo", x.undo(), left);
            c.is("the pump then", x.about(0), left == 0 ? 20 : left);
        }
        c.same("no undo of undo", Traces.answer(x, SnowGuns::undo), "IllegalStateException");
    }

    private static void beforeEachAction(Check c) {
        c.says(0, "Before each action, the state is remembered.");
        for (int i = 0; i < ACTIONS.size(); i++) {
            SnowGuns x = Situations.used();
            x.undo();
            String before = Check.seen(x);
            ACTIONS.get(i).applyAsInt(x);
            c.is("action " + i + " changes something", Check.seen(x).equals(before) ? 1 : 0, 0);
            c.is("undo of action " + i, x.undo(), 13);
            c.same("the state before action " + i, Check.seen(x), before);
        }
    }

    private static void atMostFourteen(Check c) {
        c.says(0, "At most 14 states are remembered;");
        for (int actions = 0; actions <= 30; actions++) {
            SnowGuns x = new SnowGuns();
            for (int v = 1; v <= actions; v++) {
                x.set(0, v);
            }
            int remembered = Math.min(14, actions);
            for (int left = remembered - 1; left >= 0; left--) {
                c.is("undo of " + actions + " actions", x.undo(), left);
                int pump = actions - remembered + left;
                c.is("the pump of " + actions + " actions, left " + left, x.about(0), pump == 0 ? 20 : pump);
            }
            c.same("no more of " + actions, Traces.answer(x, SnowGuns::undo), "IllegalStateException");
        }
    }

    /** Some actions, some of them taken back, and some others: a list tells what is remembered. */
    private static void roundTheEnd(Check c) {
        c.says(0, "when one more is remembered, the oldest one is forgotten.");
        for (int first = 0; first <= 29; first++) {
            for (int taken = 0; taken <= Math.min(14, first); taken++) {
                for (int second = 0; second <= 15; second += 3) {
                    SnowGuns x = new SnowGuns();
                    List<Integer> pumps = new ArrayList<>(List.of(20));
                    act(x, pumps, first);
                    for (int i = 0; i < taken; i++) {
                        pumps.remove(pumps.size() - 1);
                        c.is("undo", x.undo(), pumps.size() - 1);
                    }
                    act(x, pumps, second);
                    for (int left = pumps.size() - 2; left >= 0; left--) {
                        c.is("undo behind " + first + ", " + taken + ", " + second, x.undo(), left);
                        c.is("the pump behind " + first + ", " + taken + ", " + second, x.about(0), pumps.get(left));
                    }
                    c.same("no more", Traces.answer(x, SnowGuns::undo), "IllegalStateException");
                }
            }
        }
    }

    /** The list has the pumps of the remembered states, and at last the present one. */
    private static void act(SnowGuns x, List<Integer> pumps, int actions) {
        for (int i = 0; i < actions; i++) {
            int pump = (pumps.get(pumps.size() - 1) + 37) % 100;
            x.set(0, pump);
            pumps.add(pump);
            if (pumps.size() > 15) {
                pumps.remove(0);
            }
        }
    }

    private static void loadAndRestoreAreNone(Check c) {
        c.says(0, "load and restore are not actions.");
        SnowGuns x = Situations.used();
        x.load();
        x.set(0, 1);
        c.is("only what came behind load", x.undo(), 0);
        c.same("load itself can't be taken back", Traces.answer(x, SnowGuns::undo), "IllegalStateException");
        SnowGuns y = Situations.used();
        y.restore(0);
        y.set(0, 1);
        c.is("only what came behind restore", y.undo(), 0);
        c.same("restore itself can't be taken back", Traces.answer(y, SnowGuns::undo), "IllegalStateException");
    }

    private static void undo(Check c) {
        c.says(22, "Takes back the last action that is remembered.");
        c.says(22, "Returns how many states are still remembered.");
        SnowGuns x = Situations.used();
        int[] hours = {16, 16, 16, 16, 7, 7, 7, 7, 7, 7, 5, 5, 5, 2};
        for (int i = 0; i < 14; i++) {
            c.is("undo " + i, x.undo(), 13 - i);
            c.is("the hour behind undo " + i, x.about(8), hours[i]);
        }
        c.is("the first two are forgotten", x.gun(0, 2), 0);
    }

    private static void nothingRemembered(Check c) {
        c.says(22, "Throws `IllegalStateException` if none is remembered");
        c.refused("undo of a new object", Situations::fresh, STATE, SnowGuns::undo);
        c.refused("undo behind load", () -> Check.loaded("P600100325s4510g00w-9"), STATE, SnowGuns::undo);
        c.refused("undo behind load of an object that was used", () -> {
            SnowGuns x = Situations.used();
            x.load();
            return x;
        }, STATE, SnowGuns::undo);
        c.refused("undo behind restore", () -> {
            SnowGuns x = Situations.used();
            x.restore(1);
            return x;
        }, STATE, SnowGuns::undo);
        c.refused("a fifteenth undo", () -> {
            SnowGuns x = Situations.used();
            for (int i = 0; i < 14; i++) {
                x.undo();
            }
            return x;
        }, STATE, SnowGuns::undo);
        c.refused("a second undo of one action", () -> {
            SnowGuns x = Situations.full();
            x.undo();
            return x;
        }, STATE, SnowGuns::undo);
    }

    private static void save(Check c) {
        c.says(32, "Stores the present state in a save slot.");
        c.says(32, "Returns the hour.");
        for (int slot = 0; slot < 2; slot++) {
            SnowGuns x = new SnowGuns();
            c.is("save at first", x.save(slot), 0);
            x.pass(99);
            c.is("save then", x.save(slot), 99);
            x.undo();
            c.is("save behind undo", x.save(slot), 0);
        }
        SnowGuns used = Situations.used();
        String before = Check.seen(used);
        c.is("its hour", used.save(0), 17);
        c.same("the state stays", Check.seen(used), before);
        c.is("it is no action", used.undo(), 13);
    }

    private static void saveAnew(Check c) {
        c.says(32, "Stores the present state in a save slot.");
        for (int i = 0; i < ACTIONS.size(); i++) {
            SnowGuns x = Situations.used();
            x.save(0);
            ACTIONS.get(i).applyAsInt(x);
            String behind = Check.seen(x);
            x.save(1);
            x.pass(2);
            c.is("the newer one", x.restore(1), x.about(8));
            c.same("as it was behind action " + i, Check.seen(x), behind);
            SnowGuns y = Situations.used();
            y.save(0);
            ACTIONS.get(i).applyAsInt(y);
            y.save(1);
            y.restore(0);
            c.same("as it was before action " + i, Check.seen(y), Check.seen(Situations.used()));
        }
        SnowGuns x = new SnowGuns();
        x.save(0);
        x.set(0, 7);
        x.save(0);
        x.set(0, 8);
        x.restore(0);
        c.is("the last one that was saved", x.about(0), 7);
    }

    private static void noSuchSlot(Check c) {
        c.says(32, "- `slot`: 0 or 1");
        c.says(32, "Throws `IndexOutOfBoundsException` if there is no such save slot");
        c.numbers("save", Situations::fresh, 2, SnowGuns::save);
        c.numbers("save", Situations::used, 2, SnowGuns::save);
        c.numbers("save", Situations::full, 2, SnowGuns::save);
        c.numbers("save", Situations::bare, 2, SnowGuns::save);
        c.says(33, "- `slot`: 0 or 1");
        c.says(33, "Throws `IndexOutOfBoundsException` if there is no such save slot");
        c.numbers("restore", Situations::used, 2, SnowGuns::restore);
        c.noSuch("restore, with nothing saved", Situations::fresh, 2, SnowGuns::restore);
        c.noSuch("restore, with one saved", Situations::full, 2, SnowGuns::restore);
        c.noSuch("restore, with nothing saved", Situations::bare, 2, SnowGuns::restore);
    }

    private static void restore(Check c) {
        c.says(33, "Replaces the state by the one in a save slot,");
        c.says(33, "Returns the hour then.");
        SnowGuns x = Situations.used();
        c.is("restore(1)", x.restore(1), 5);
        c.is("its hour", x.about(8), 5);
        c.is("restore(0)", x.restore(0), 2);
        c.is("its hour", x.about(8), 2);
        SnowGuns y = Situations.used();
        String before = Check.seen(y);
        y.save(0);
        for (ToIntFunction<SnowGuns> action : ACTIONS) {
            // once slope 1 has a gun, it can't be removed
            Traces.answer(y, action);
        }
        y.restore(0);
        c.same("all is as before", Check.seen(y), before);
        y.clearText();
        y.append('P');
        y.restore(1);
        c.is("the text is not replaced", y.clearText(), 1);
    }

    private static void restoreForgets(Check c) {
        c.says(33, "and forgets all remembered states.");
        for (int actions = 0; actions <= 16; actions++) {
            SnowGuns x = new SnowGuns();
            x.save(1);
            for (int v = 1; v <= actions; v++) {
                x.set(0, v);
            }
            x.restore(1);
            c.same("behind " + actions + " actions", Traces.answer(x, SnowGuns::undo), "IllegalStateException");
            for (int v = 1; v <= 15; v++) {
                x.set(0, v);
            }
            for (int left = 13; left >= 0; left--) {
                c.is("undo behind restore", x.undo(), left);
                c.is("the pump then", x.about(0), left + 1);
            }
        }
    }

    private static void slotKeeps(Check c) {
        c.says(33, "The save slot keeps it.");
        SnowGuns x = Situations.used();
        x.restore(1);
        String want = Check.seen(x);
        for (ToIntFunction<SnowGuns> action : List.of(ACTIONS.get(1), ACTIONS.get(11))) {
            action.applyAsInt(x);
            c.is("restore once more", x.restore(1), 5);
            c.same("the same", Check.seen(x), want);
        }
    }

    private static void nothingSaved(Check c) {
        c.says(33, "Throws `IllegalStateException` if nothing has been saved in it since the last load");
        for (int slot = 0; slot < 2; slot++) {
            int s = slot;
            c.refused("restore(" + s + ") of a new object", Situations::fresh, STATE, x -> x.restore(s));
            c.refused("restore(" + s + ") without slopes", Situations::bare, STATE, x -> x.restore(s));
            c.refused("restore(" + s + ") with the other one saved", () -> {
                SnowGuns x = Situations.bare();
                x.save(1 - s);
                return x;
            }, STATE, x -> x.restore(s));
            c.refused("restore(" + s + ") behind load", () -> {
                SnowGuns x = Situations.used();
                x.load();
                return x;
            }, STATE, x -> x.restore(s));
            c.refused("restore(" + s + ") with the other one saved behind load", () -> {
                SnowGuns x = Situations.used();
                x.load();
                x.save(1 - s);
                return x;
            }, STATE, x -> x.restore(s));
            SnowGuns x = Situations.used();
            x.load();
            x.save(s);
            c.is("saved behind load", x.restore(s), 0);
        }
        c.refused("restore(0) in a full state", Situations::full, STATE, x -> x.restore(0));
        SnowGuns x = Situations.used();
        x.append('!');
        Traces.answer(x, SnowGuns::load);
        c.is("a load that is refused empties nothing", x.restore(0), 2);
    }
}
