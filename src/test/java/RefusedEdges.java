import java.util.LinkedHashMap;
import java.util.List;
import java.util.Map;
import java.util.function.Supplier;
import java.util.function.ToIntFunction;

/** The terms: exceptions. */
final class RefusedEdges {
    private static final int LEAST = Integer.MIN_VALUE;
    private static final int GREATEST = Integer.MAX_VALUE;

    private static final Class<IndexOutOfBoundsException> INDEX = IndexOutOfBoundsException.class;
    private static final Class<IllegalArgumentException> ARGUMENT = IllegalArgumentException.class;
    private static final Class<IllegalStateException> STATE = IllegalStateException.class;

    private static final List<Supplier<SnowGuns>> ALL =
        List.of(Situations::fresh, Situations::used, Situations::full, Situations::bare);

    private RefusedEdges() {
    }

    static void run(Check c) {
        wrongIndices(c);
        wrongArguments(c);
        wrongStates(c);
        firstNamed(c);
        changesNothing(c);
        changeNothingAtAll(c);
    }

    private static void everywhere(Check c, Class<? extends RuntimeException> kind,
            Map<String, ToIntFunction<SnowGuns>> calls) {
        for (Map.Entry<String, ToIntFunction<SnowGuns>> call : calls.entrySet()) {
            for (int i = 0; i < ALL.size(); i++) {
                c.refused(call.getKey() + " in situation " + i, ALL.get(i), kind, call.getValue());
            }
        }
    }

    private static void wrongIndices(Check c) {
        c.says(0, "IndexOutOfBoundsException means that a slope or a gun does not exist, or that a save slot is not 0 or 1.");
        for (int n : new int[] {LEAST, -1, 8, 9, GREATEST}) {
            Map<String, ToIntFunction<SnowGuns>> calls = new LinkedHashMap<>();
            calls.put("slope", x -> x.slope(n, 0));
            calls.put("gun", x -> x.gun(n, 0));
            calls.put("setSlope", x -> x.setSlope(n, 1, 1));
            calls.put("removeSlope", x -> x.removeSlope(n));
            calls.put("addGun", x -> x.addGun(n, 1));
            calls.put("bring of such a gun", x -> x.bring(n, 0));
            calls.put("bring to such a slope", x -> x.bring(0, n));
            calls.put("allow", x -> x.allow(n, true));
            calls.put("whyNot", x -> x.whyNot(n));
            calls.put("readyAfter", x -> x.readyAfter(n));
            calls.put("save", x -> x.save(n));
            calls.put("restore", x -> x.restore(n));
            everywhere(c, INDEX, calls);
        }
        for (Supplier<SnowGuns> made : ALL) {
            c.refused("save(2)", made, INDEX, x -> x.save(2));
            c.refused("restore(2)", made, INDEX, x -> x.restore(2));
        }
    }

    private static void wrongArguments(Check c) {
        c.says(0, "IllegalArgumentException means that another argument is out of its range.");
        for (int v : new int[] {LEAST, -10, 10000, GREATEST}) {
            Map<String, ToIntFunction<SnowGuns>> calls = new LinkedHashMap<>();
            calls.put("append", x -> x.append(v));
            calls.put("about", x -> x.about(v));
            calls.put("account", x -> x.account(v));
            calls.put("book(0, ..)", x -> x.book(0, v));
            calls.put("wet", x -> x.wet(v));
            calls.put("pass", x -> x.pass(v));
            calls.put("set(.., 0)", x -> x.set(v, 0));
            calls.put("set(0, ..)", x -> x.set(0, v));
            calls.put("set(1, ..)", x -> x.set(1, v));
            calls.put("set(2, ..)", x -> x.set(2, v));
            calls.put("set(3, ..)", x -> x.set(3, v));
            calls.put("fill", x -> x.fill(v));
            calls.put("setWet(.., 0)", x -> x.setWet(v, 0));
            calls.put("setWet(0, ..)", x -> x.setWet(0, v));
            calls.put("addSlope(.., 1, 1)", x -> x.addSlope(v, 1, 1));
            calls.put("addSlope(1, .., 1)", x -> x.addSlope(1, v, 1));
            calls.put("addSlope(1, 1, ..)", x -> x.addSlope(1, 1, v));
            calls.put("ahead(.., 0)", x -> x.ahead(v, 0));
            calls.put("ahead(0, ..)", x -> x.ahead(0, v));
            calls.put("bestPlace(.., 1)", x -> x.bestPlace(v, 1));
            calls.put("bestPlace(0, ..)", x -> x.bestPlace(0, v));
            calls.put("missing", x -> x.missing(v));
            calls.put("coldest", x -> x.coldest(v));
            calls.put("runScript(.., 0)", x -> x.runScript(v, 0));
            calls.put("runScript(1, -1)", x -> x.runScript(1, -1));
            calls.put("simulate", x -> x.simulate(0, v));
            if (v < 0) {
                calls.put("book(.., 0)", x -> x.book(v, 0));
                calls.put("order", x -> x.order(v));
            }
            everywhere(c, ARGUMENT, calls);
        }
    }

    private static void wrongStates(Check c) {
        c.says(0, "IllegalStateException means what the method says.");
        c.refused("append to a full text", Situations::full, STATE, x -> x.append(0));
        c.refused("load of no text", Situations::fresh, STATE, SnowGuns::load);
        c.refused("load of a wrong text", Situations::full, STATE, SnowGuns::load);
        c.refused("addSlope with six slopes", Situations::full, STATE, x -> x.addSlope(1, 0, 0));
        c.refused("removeSlope with guns", Situations::used, STATE, x -> x.removeSlope(0));
        c.refused("addGun with eight guns", Situations::full, STATE, x -> x.addGun(5, 0));
        c.refused("undo without a state", Situations::fresh, STATE, SnowGuns::undo);
        c.refused("restore without a state", Situations::full, STATE, x -> x.restore(0));
    }

    /** Each two exceptions that a call can have at once. */
    private static void firstNamed(Check c) {
        c.says(0, "If several exceptions apply to a call, the one that its description names first is thrown.");
        c.refused("append: argument, state", Situations::full, ARGUMENT, x -> x.append(256));
        c.refused("slope: index, argument", Situations::used, INDEX, x -> x.slope(3, 7));
        c.refused("gun: index, argument", Situations::used, INDEX, x -> x.gun(3, 6));
        c.refused("setSlope: index, argument what", Situations::used, INDEX, x -> x.setSlope(3, 0, 5));
        c.refused("setSlope: index, argument v", Situations::used, INDEX, x -> x.setSlope(3, 1, 10));
        c.refused("addSlope: argument area, state", Situations::full, ARGUMENT, x -> x.addSlope(10, 1, 1));
        c.refused("addSlope: argument rank, state", Situations::full, ARGUMENT, x -> x.addSlope(1, -1, 1));
        c.refused("addSlope: argument target, state", Situations::full, ARGUMENT, x -> x.addSlope(1, 1, -1));
        c.refused("addGun: index, argument", Situations::used, INDEX, x -> x.addGun(3, 4));
        c.refused("addGun: index, state", Situations::full, INDEX, x -> x.addGun(6, 0));
        c.refused("addGun: argument, state", Situations::full, ARGUMENT, x -> x.addGun(5, 4));
        c.refused("addGun: index, argument, state", Situations::full, INDEX, x -> x.addGun(6, 4));
        c.refused("restore: index, state", Situations::fresh, INDEX, x -> x.restore(2));
        c.refused("restore: index, state", Situations::bare, INDEX, x -> x.restore(-1));
    }

    /** What a refused action would leave, had it been remembered: a 15th state would push the oldest one out. */
    private static void changesNothing(Check c) {
        c.says(0, "A call that throws an exception changes nothing.");
        List<ToIntFunction<SnowGuns>> actions = List.of(x -> x.pass(0), x -> x.set(0, 100), x -> x.fill(0),
            x -> x.setWet(5, 0), x -> x.setSlope(0, 1, 10), x -> x.setSlope(3, 1, 1), x -> x.addSlope(0, 0, 0),
            x -> x.removeSlope(0), x -> x.removeSlope(3), x -> x.addGun(0, 4), x -> x.addGun(3, 0), x -> x.bring(0, 3),
            x -> x.bring(3, 0), x -> x.allow(3, true), x -> x.save(2), x -> x.restore(2), x -> x.append(256));
        c.leavesNoTrace("one after the other", Situations::used, x -> {
            for (ToIntFunction<SnowGuns> action : actions) {
                Traces.answer(x, action);
            }
            return 0;
        });
        List<ToIntFunction<SnowGuns>> inFull = List.of(x -> x.addSlope(1, 1, 1), x -> x.addGun(0, 0), x -> x.append('w'),
            SnowGuns::load, x -> x.restore(0), x -> x.removeSlope(0), x -> x.bring(8, 0), x -> x.bring(0, 6));
        c.leavesNoTrace("one after the other, where all is full", Situations::full, x -> {
            for (ToIntFunction<SnowGuns> action : inFull) {
                Traces.answer(x, action);
            }
            return 0;
        });
        SnowGuns x = Situations.used();
        for (ToIntFunction<SnowGuns> action : actions) {
            Traces.answer(x, action);
        }
        for (int left = 13; left >= 0; left--) {
            c.is("each of the 14 states is there still", x.undo(), left);
        }
    }

    private static void changeNothingAtAll(Check c) {
        c.says(0, "Ahead of the calls `whyNot`, `order` the interface says: ---- guns; these and all following methods up to "
            + "the save slots change nothing.");
        Map<String, ToIntFunction<SnowGuns>> calls = new LinkedHashMap<>();
        for (int g = 0; g < 3; g++) {
            int gun = g;
            calls.put("whyNot(" + g + ")", x -> x.whyNot(gun));
            calls.put("order(" + g + ")", x -> x.order(gun));
            calls.put("readyAfter(" + g + ")", x -> x.readyAfter(gun));
        }
        for (int what = 0; what < 5; what++) {
            int w = what;
            calls.put("ahead(0, " + what + ")", x -> x.ahead(0, w));
            calls.put("ahead(99, " + what + ")", x -> x.ahead(99, w));
        }
        calls.put("bestPlace", x -> x.bestPlace(3, 99));
        calls.put("missing", x -> x.missing(99));
        calls.put("coldest", x -> x.coldest(24));
        long[] scripts = {10099_20999_30000L, 31001_32009_33050L, 40001_42000_51000L, 50001_60000_61099L, 90000_90001_90001L,
            70000_90105_90001L, 10005_90003_70000L, 0, 99999_99999_99999L};
        for (long script : scripts) {
            calls.put("runScript(3, " + script + ")", x -> x.runScript(3, script));
        }
        for (long seed = 0; seed < 9; seed++) {
            long s = seed;
            calls.put("simulate(" + seed + ", 99)", x -> x.simulate(s, 99));
        }
        for (Map.Entry<String, ToIntFunction<SnowGuns>> call : calls.entrySet()) {
            for (int i = 0; i < ALL.size(); i++) {
                c.leavesNoTrace(call.getKey() + " in situation " + i, ALL.get(i), call.getValue());
            }
        }
    }
}
