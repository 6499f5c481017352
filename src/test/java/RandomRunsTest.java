import java.util.Random;
import java.util.function.IntSupplier;

/** Runs of at most 512 random calls, each answered by SnowGuns and by Plain; the seeds are fixed. */
public final class RandomRunsTest {
    private static final int RUNS = 600;
    private static final int CALLS = 505;

    private final Random random;
    private final SnowGuns x = new SnowGuns();
    private final Plain y = new Plain();
    private int done;

    private RandomRunsTest(long seed) {
        random = new Random(seed);
    }

    public static void main(String[] args) {
        Check c = new Check();
        for (int run = 0; run < RUNS; run++) {
            new RandomRunsTest(run).run(c, run);
        }
        c.end("RandomRunsTest");
    }

    private void run(Check c, int run) {
        if (run % 4 != 0) {
            for (char sign : text().toCharArray()) {
                both(c, run, "append", () -> x.append(sign), () -> y.append(sign));
            }
            both(c, run, "errorPosition", x::errorPosition, y::errorPosition);
            both(c, run, "load", x::load, y::load);
        }
        while (done < CALLS) {
            one(c, run);
        }
        int balance = x.account(1) + x.account(2) + x.account(4) + x.account(5) + x.about(7);
        c.is("run " + run + ", the balance of water", balance, x.account(0));
    }

    private static String answer(IntSupplier call) {
        try {
            return Integer.toString(call.getAsInt());
        } catch (IllegalArgumentException | IllegalStateException | IndexOutOfBoundsException e) {
            return e.getClass().getSimpleName();
        }
    }

    private void both(Check c, int run, String name, IntSupplier mine, IntSupplier plain) {
        done++;
        c.same("run " + run + ", call " + done + ", " + name, answer(mine), answer(plain));
    }

    private String text() {
        StringBuilder t = new StringBuilder("P");
        t.append(pick(0, 9)).append(pick(0, 9)).append(pick(0, 1) == 0 ? "00" : pick(10, 99)).append(pick(10, 99));
        t.append(pick(0, 9)).append(pick(0, 4)).append(pick(0, 9));
        int slopes = pick(1, 6);
        for (int s = 0; s < slopes; s++) {
            t.append('s').append(pick(1, 9)).append(pick(0, 9)).append(pick(0, 3)).append(pick(0, 9));
        }
        int guns = pick(0, 8);
        for (int g = 0; g < guns; g++) {
            t.append('g').append(pick(0, slopes - 1)).append(pick(0, 3));
        }
        t.append('w');
        int wets = pick(1, 24);
        for (int i = 0; i < wets; i++) {
            t.append(pick(0, 4) == 0 ? '+' : '-').append(pick(0, 9));
        }
        if (pick(0, 3) == 0) {
            t.setCharAt(pick(0, t.length() - 1), "Psgw+-0123456789 ".charAt(pick(0, 16)));
        }
        return pick(0, 9) == 0 ? t.substring(0, pick(0, t.length())) : t.toString();
    }

    private int pick(int least, int most) {
        return least + random.nextInt(most - least + 1);
    }

    /** Mostly in the range, now and then just outside it or far away. */
    private int near(int least, int most) {
        int kind = pick(0, 29);
        if (kind == 0) {
            return least - 1;
        }
        if (kind == 1) {
            return most + 1;
        }
        if (kind == 2) {
            return random.nextInt();
        }
        return kind == 3 ? most : kind == 4 ? least : pick(least, most);
    }

    private int slopeNumber() {
        return near(0, Math.max(0, y.about(4) - 1));
    }

    private int gunNumber() {
        return near(0, Math.max(0, y.about(5) - 1));
    }

    private void one(Check c, int run) {
        switch (pick(0, 9)) {
            case 0:
            case 1:
            case 2:
                action(c, run);
                break;
            case 3:
                change(c, run);
                break;
            case 4:
                forecast(c, run);
                break;
            case 5:
                other(c, run);
                break;
            default:
                reading(c, run);
                break;
        }
    }

    private void action(Check c, int run) {
        int s = slopeNumber();
        int g = gunNumber();
        switch (pick(0, 7)) {
            case 0:
            case 1:
                int m = near(1, pick(0, 2) == 0 ? 99 : 5);
                both(c, run, "pass(" + m + ")", () -> x.pass(m), () -> y.pass(m));
                break;
            case 2:
                int what = near(0, 3);
                int v = near(0, what == 1 ? pick(0, 9) == 0 ? 9999 : 200 : what == 0 ? 99 : what == 3 ? 50 : 9);
                both(c, run, "set(" + what + ", " + v + ")", () -> x.set(what, v), () -> y.set(what, v));
                break;
            case 3:
                int units = near(1, pick(0, 9) == 0 ? 9999 : 200);
                both(c, run, "fill(" + units + ")", () -> x.fill(units), () -> y.fill(units));
                break;
            case 4:
                int i = near(0, y.about(6) - 1);
                int wet = near(-9, 9);
                both(c, run, "setWet(" + i + ", " + wet + ")", () -> x.setWet(i, wet), () -> y.setWet(i, wet));
                break;
            case 5:
                boolean allowed = pick(0, 3) > 0;
                both(c, run, "allow(" + g + ", " + allowed + ")", () -> x.allow(g, allowed), () -> y.allow(g, allowed));
                break;
            case 6:
                both(c, run, "bring(" + g + ", " + s + ")", () -> x.bring(g, s), () -> y.bring(g, s));
                break;
            default:
                both(c, run, "undo()", x::undo, y::undo);
                break;
        }
    }

    private void change(Check c, int run) {
        int s = slopeNumber();
        switch (pick(0, 4)) {
            case 0:
                int what = near(1, 2);
                int v = near(0, what == 1 ? 9 : pick(0, 2) == 0 ? 99 : 20);
                both(c, run, "setSlope(" + s + ", " + what + ", " + v + ")", () -> x.setSlope(s, what, v),
                    () -> y.setSlope(s, what, v));
                break;
            case 1:
                int area = near(1, 9);
                int rank = near(0, 9);
                int target = near(0, 99);
                both(c, run, "addSlope(" + area + ", " + rank + ", " + target + ")", () -> x.addSlope(area, rank, target),
                    () -> y.addSlope(area, rank, target));
                break;
            case 2:
            case 3:
                both(c, run, "removeSlope(" + s + ")", () -> x.removeSlope(s), () -> y.removeSlope(s));
                break;
            default:
                int nozzle = near(0, 3);
                both(c, run, "addGun(" + s + ", " + nozzle + ")", () -> x.addGun(s, nozzle), () -> y.addGun(s, nozzle));
                break;
        }
    }

    private void forecast(Check c, int run) {
        int m = near(1, 99);
        switch (pick(0, 9)) {
            case 0:
                int hours = near(0, 99);
                int what = near(0, 4);
                both(c, run, "ahead(" + hours + ", " + what + ")", () -> x.ahead(hours, what), () -> y.ahead(hours, what));
                break;
            case 1:
                int s = slopeNumber();
                both(c, run, "readyAfter(" + s + ")", () -> x.readyAfter(s), () -> y.readyAfter(s));
                break;
            case 2:
            case 3:
                int nozzle = near(0, 3);
                both(c, run, "bestPlace(" + nozzle + ", " + m + ")", () -> x.bestPlace(nozzle, m),
                    () -> y.bestPlace(nozzle, m));
                break;
            case 4:
                int few = near(1, 20);
                both(c, run, "missing(" + few + ")", () -> x.missing(few), () -> y.missing(few));
                break;
            case 5:
                long seed = random.nextLong();
                both(c, run, "simulate(" + seed + ", " + m + ")", () -> x.simulate(seed, m), () -> y.simulate(seed, m));
                break;
            case 6:
                int n = near(1, 24);
                both(c, run, "coldest(" + n + ")", () -> x.coldest(n), () -> y.coldest(n));
                break;
            default:
                script(c, run);
                break;
        }
    }

    private void script(Check c, int run) {
        int n = near(1, 3);
        long all = 0;
        for (int i = 0; i < n && i < 3; i++) {
            all = all * 100000 + group();
        }
        long script = pick(0, 29) == 0 ? random.nextLong() : all;
        both(c, run, "runScript(" + n + ", " + script + ")", () -> x.runScript(n, script), () -> y.runScript(n, script));
    }

    private int group() {
        int first = pick(1, 9);
        int second = first <= 2 || first == 8 ? 0 : pick(0, 3);
        int last = first <= 3 ? pick(0, 99) : first == 6 || first == 7 ? pick(0, 12) : pick(0, 3);
        int group = first * 10000 + second * 1000 + last;
        return pick(0, 14) == 0 ? pick(0, 99999) : group;
    }

    private void other(Check c, int run) {
        switch (pick(0, 9)) {
            case 0:
                int sign = near(0, 255);
                both(c, run, "append(" + sign + ")", () -> x.append(sign), () -> y.append(sign));
                break;
            case 1:
                if (pick(0, 9) == 0) {
                    both(c, run, "clearText", x::clearText, y::clearText);
                }
                break;
            case 2:
                both(c, run, "errorPosition", x::errorPosition, y::errorPosition);
                break;
            case 3:
                both(c, run, "load", x::load, y::load);
                break;
            case 4:
            case 5:
            case 6:
                int to = near(0, 1);
                both(c, run, "save(" + to + ")", () -> x.save(to), () -> y.save(to));
                break;
            case 7:
                int from = near(0, 1);
                both(c, run, "restore(" + from + ")", () -> x.restore(from), () -> y.restore(from));
                break;
            default:
                int g = gunNumber();
                both(c, run, "whyNot(" + g + ")", () -> x.whyNot(g), () -> y.whyNot(g));
                break;
        }
    }

    private void reading(Check c, int run) {
        int s = slopeNumber();
        int g = gunNumber();
        switch (pick(0, 6)) {
            case 0:
                int about = near(0, 13);
                both(c, run, "about(" + about + ")", () -> x.about(about), () -> y.about(about));
                break;
            case 1:
                int ofSlope = near(0, 6);
                both(c, run, "slope(" + s + ", " + ofSlope + ")", () -> x.slope(s, ofSlope), () -> y.slope(s, ofSlope));
                break;
            case 2:
                int ofGun = near(0, 5);
                both(c, run, "gun(" + g + ", " + ofGun + ")", () -> x.gun(g, ofGun), () -> y.gun(g, ofGun));
                break;
            case 3:
                int account = near(0, 5);
                both(c, run, "account(" + account + ")", () -> x.account(account), () -> y.account(account));
                break;
            case 4:
                int j = near(0, 20);
                int what = near(0, 1);
                both(c, run, "book(" + j + ", " + what + ")", () -> x.book(j, what), () -> y.book(j, what));
                break;
            case 5:
                int hour = near(0, 9999);
                both(c, run, "wet(" + hour + ")", () -> x.wet(hour), () -> y.wet(hour));
                break;
            default:
                int i = near(0, 8);
                both(c, run, "order(" + i + ")", () -> x.order(i), () -> y.order(i));
                break;
        }
    }
}
