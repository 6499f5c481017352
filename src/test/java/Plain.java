import java.util.ArrayList;
import java.util.Comparator;
import java.util.List;

/** The document once more, told as plainly as it can be, to compare SnowGuns with; it shares no code with it. */
final class Plain {
    static final int NONE = -9999;

    private static final class Place {
        int area;
        int rank;
        int target;
        int snow;
    }

    private static final class Cannon {
        Place at;
        int nozzle;
        boolean allowed = true;
        int mode;
        int made;
        int hours;
    }

    private static final class Line {
        Place place;
        int hour;
    }

    private static final class World {
        int[] four = new int[4];
        List<Place> places = new ArrayList<>();
        List<Cannon> cannons = new ArrayList<>();
        List<Line> lines = new ArrayList<>();
        List<Integer> wets = new ArrayList<>();
        int pond;
        int hour;
        int[] sums = new int[6];
        int made;
        List<Integer> reasons = new ArrayList<>();

        World copy() {
            World w = new World();
            w.four = four.clone();
            for (Place p : places) {
                Place q = new Place();
                q.area = p.area;
                q.rank = p.rank;
                q.target = p.target;
                q.snow = p.snow;
                w.places.add(q);
            }
            for (Cannon c : cannons) {
                Cannon d = new Cannon();
                d.at = w.places.get(places.indexOf(c.at));
                d.nozzle = c.nozzle;
                d.allowed = c.allowed;
                d.mode = c.mode;
                d.made = c.made;
                d.hours = c.hours;
                w.cannons.add(d);
            }
            for (Line l : lines) {
                Line k = new Line();
                k.place = w.places.get(places.indexOf(l.place));
                k.hour = l.hour;
                w.lines.add(k);
            }
            w.wets.addAll(wets);
            w.pond = pond;
            w.hour = hour;
            w.sums = sums.clone();
            w.made = made;
            return w;
        }

        int temperature(int h) {
            return wets.get(h % wets.size());
        }

        int cold(int h) {
            int t = temperature(h);
            return t > -2 ? 0 : t > -5 ? 1 : t > -8 ? 2 : 3;
        }

        boolean ready(Place p) {
            return p.snow / p.area >= p.target;
        }

        int readyOnes() {
            return (int) places.stream().filter(this::ready).count();
        }

        int snow() {
            return places.stream().mapToInt(p -> p.snow).sum();
        }

        int pour(int units) {
            int in = 0;
            while (in < units && pond < four[1]) {
                pond++;
                in++;
            }
            return in;
        }

        List<Cannon> sequence() {
            List<Cannon> all = new ArrayList<>(cannons);
            all.sort(Comparator.comparingInt((Cannon c) -> -c.at.rank).thenComparingInt(c -> c.at.snow / c.at.area)
                .thenComparingInt(cannons::indexOf));
            return all;
        }

        void hours(int m) {
            for (int i = 0; i < m; i++) {
                oneHour();
            }
        }

        void oneHour() {
            List<Place> readyBefore = new ArrayList<>(places);
            readyBefore.removeIf(p -> !ready(p));
            sums[0] += pour(four[2]);
            int pump = four[0];
            Integer[] why = new Integer[cannons.size()];
            for (Cannon c : sequence()) {
                int use = (c.nozzle + 1) * cold(hour);
                int reason = !c.allowed ? 1 : cold(hour) == 0 ? 2 : ready(c.at) ? 3 : use > pump ? 4 : use > pond ? 5 : 0;
                why[cannons.indexOf(c)] = reason;
                if (reason != 0) {
                    c.mode = 0;
                    continue;
                }
                pump -= use;
                pond -= use;
                int lost = c.mode == 0 ? use : (int) Math.ceil(use * four[3] / 100.0);
                int flakes = use - lost;
                if (c.mode != 0) {
                    c.hours++;
                    c.made += flakes;
                    made += flakes;
                    while (c.at.snow + flakes > 999) {
                        flakes--;
                        lost++;
                    }
                    c.at.snow += flakes;
                }
                c.mode = c.mode == 0 ? 1 : 2;
                sums[1] += lost;
            }
            reasons = List.of(why);
            int warm = temperature(hour);
            if (warm > 0) {
                for (Place p : places) {
                    int gone = Math.min(p.snow, warm * p.area);
                    p.snow -= gone;
                    sums[3] += gone;
                    sums[2] += gone - pour(gone / 2);
                }
            }
            hour++;
            for (Place p : places) {
                if (ready(p) && !readyBefore.contains(p)) {
                    Line l = new Line();
                    l.place = p;
                    l.hour = hour;
                    lines.add(l);
                }
            }
            while (lines.size() > 20) {
                lines.remove(0);
            }
        }

        void change(int what, int v) {
            four[what] = v;
            while (pond > four[1]) {
                pond--;
                sums[5]++;
            }
        }

        void cannon(int s, int nozzle) {
            Cannon c = new Cannon();
            c.at = places.get(s);
            c.nozzle = nozzle;
            cannons.add(c);
        }

        void place(int area, int rank, int target) {
            Place p = new Place();
            p.area = area;
            p.rank = rank;
            p.target = target;
            places.add(p);
        }
    }

    private String text = "";
    private World now = read("P200500210s4510g01w" + "-4".repeat(24));
    private final List<World> past = new ArrayList<>();
    private final World[] slots = new World[2];

    private static World read(String t) {
        World w = new World();
        w.four = new int[] {num(t, 1, 3), num(t, 3, 7), num(t, 7, 8), num(t, 8, 10)};
        w.pond = w.four[1];
        w.sums[0] = w.pond;
        int i = 10;
        for (; t.charAt(i) == 's'; i += 5) {
            w.place(num(t, i + 1, i + 2), num(t, i + 2, i + 3), num(t, i + 3, i + 5));
        }
        for (; t.charAt(i) == 'g'; i += 3) {
            w.cannon(num(t, i + 1, i + 2), num(t, i + 2, i + 3));
        }
        for (i++; i < t.length(); i += 2) {
            w.wets.add(num(t, i + 1, i + 2) * (t.charAt(i) == '-' ? -1 : 1));
        }
        return w;
    }

    private static int num(String t, int from, int to) {
        return Integer.parseInt(t.substring(from, to));
    }

    private static void index(boolean good) {
        if (!good) {
            throw new IndexOutOfBoundsException();
        }
    }

    private static void argument(boolean good) {
        if (!good) {
            throw new IllegalArgumentException();
        }
    }

    private static void state(boolean good) {
        if (!good) {
            throw new IllegalStateException();
        }
    }

    private static boolean in(long v, long least, long most) {
        return v >= least && v <= most;
    }

    private void remember() {
        past.add(now.copy());
        if (past.size() > 14) {
            past.remove(0);
        }
    }

    int append(int c) {
        argument(in(c, 0, 255));
        state(text.length() < 120);
        text += (char) c;
        return text.length();
    }

    int clearText() {
        int before = text.length();
        text = "";
        return before;
    }

    /** How a text goes on that is right, once for each number of slopes, as a regular expression of all beginnings. */
    int errorPosition() {
        for (int n = 0; n <= text.length(); n++) {
            if (!begins(text.substring(0, n))) {
                return n - 1;
            }
        }
        return right(text) ? NONE : text.length();
    }

    private static boolean right(String t) {
        for (int slopes = 1; slopes <= 6; slopes++) {
            if (t.matches("P\\d{7}([0-4]\\d|50)(s[1-9]\\d\\d\\d){" + slopes + "}(g[0-" + (slopes - 1)
                + "][0-3]){0,8}w([+-]\\d){1,24}")) {
                return true;
            }
        }
        return false;
    }

    private static boolean begins(String t) {
        String[] whole = {"P0000000", "00", "s1000", "w+0"};
        if (t.length() <= 8) {
            return right(t + whole[0].substring(t.length()) + whole[1] + whole[2] + whole[3]);
        }
        String[] tails = {"0", "", "1000", "000", "00", "00g00", "g00"};
        for (String tail : tails) {
            for (String behind : new String[] {"", "s1000", "00", "0"}) {
                for (String end : new String[] {"w+0", "+0", "0", ""}) {
                    if (right(t + tail + behind + end)) {
                        return true;
                    }
                }
            }
        }
        return false;
    }

    int load() {
        state(right(text));
        now = read(text);
        past.clear();
        slots[0] = null;
        slots[1] = null;
        return now.places.size();
    }

    int about(int what) {
        argument(in(what, 0, 13));
        if (what < 4) {
            return now.four[what];
        }
        int running = (int) now.cannons.stream().filter(c -> c.mode == 2).count();
        return new int[] {now.places.size(), now.cannons.size(), now.wets.size(), now.pond, now.hour, now.readyOnes(),
            running, now.lines.size(), now.temperature(now.hour), now.cold(now.hour)}[what - 4];
    }

    int slope(int s, int what) {
        index(in(s, 0, now.places.size() - 1));
        argument(in(what, 0, 6));
        Place p = now.places.get(s);
        int guns = (int) now.cannons.stream().filter(c -> c.at == p).count();
        return new int[] {p.area, p.rank, p.target, p.snow, p.snow / p.area, now.ready(p) ? 1 : 0, guns}[what];
    }

    int gun(int g, int what) {
        index(in(g, 0, now.cannons.size() - 1));
        argument(in(what, 0, 5));
        Cannon c = now.cannons.get(g);
        return new int[] {now.places.indexOf(c.at), c.nozzle, c.allowed ? 1 : 0, c.mode, c.made, c.hours}[what];
    }

    int account(int what) {
        argument(in(what, 0, 5));
        return what == 4 ? now.snow() : now.sums[what];
    }

    int book(int j, int what) {
        argument(j >= 0 && in(what, 0, 1));
        if (j >= now.lines.size()) {
            return NONE;
        }
        Line l = now.lines.get(now.lines.size() - 1 - j);
        return what == 0 ? now.places.indexOf(l.place) : l.hour;
    }

    int wet(int hour) {
        argument(in(hour, 0, 9999));
        return now.temperature(hour);
    }

    int pass(int m) {
        argument(in(m, 1, 99));
        remember();
        int before = now.made;
        now.hours(m);
        return now.made - before;
    }

    int set(int what, int v) {
        argument(in(what, 0, 3) && in(v, 0, new int[] {99, 9999, 9, 50}[what]));
        remember();
        int before = now.four[what];
        now.change(what, v);
        return before;
    }

    int fill(int units) {
        argument(in(units, 1, 9999));
        remember();
        int taken = now.pour(units);
        now.sums[0] += taken;
        return taken;
    }

    int setWet(int i, int v) {
        argument(in(i, 0, now.wets.size() - 1) && in(v, -9, 9));
        remember();
        return now.wets.set(i, v);
    }

    int setSlope(int s, int what, int v) {
        index(in(s, 0, now.places.size() - 1));
        argument(what == 1 && in(v, 0, 9) || what == 2 && in(v, 0, 99));
        remember();
        Place p = now.places.get(s);
        int before = what == 1 ? p.rank : p.target;
        p.rank = what == 1 ? v : p.rank;
        p.target = what == 2 ? v : p.target;
        return before;
    }

    int addSlope(int area, int rank, int target) {
        argument(in(area, 1, 9) && in(rank, 0, 9) && in(target, 0, 99));
        state(now.places.size() < 6);
        remember();
        now.place(area, rank, target);
        return now.places.size() - 1;
    }

    int removeSlope(int s) {
        index(in(s, 0, now.places.size() - 1));
        Place p = now.places.get(s);
        state(now.cannons.stream().noneMatch(c -> c.at == p));
        remember();
        now.places.remove(s);
        now.lines.removeIf(l -> l.place == p);
        now.sums[5] += p.snow;
        return p.snow;
    }

    int addGun(int s, int nozzle) {
        index(in(s, 0, now.places.size() - 1));
        argument(in(nozzle, 0, 3));
        state(now.cannons.size() < 8);
        remember();
        now.cannon(s, nozzle);
        return now.cannons.size() - 1;
    }

    int bring(int g, int s) {
        index(in(g, 0, now.cannons.size() - 1) && in(s, 0, now.places.size() - 1));
        remember();
        Cannon c = now.cannons.get(g);
        int before = now.places.indexOf(c.at);
        c.at = now.places.get(s);
        c.mode = 0;
        return before;
    }

    int allow(int g, boolean allowed) {
        index(in(g, 0, now.cannons.size() - 1));
        remember();
        now.cannons.get(g).allowed = allowed;
        return (int) now.cannons.stream().filter(c -> c.allowed).count();
    }

    int undo() {
        state(!past.isEmpty());
        now = past.remove(past.size() - 1);
        return past.size();
    }

    int whyNot(int g) {
        index(in(g, 0, now.cannons.size() - 1));
        return reason(now, g);
    }

    private static int reason(World world, int g) {
        World w = world.copy();
        w.oneHour();
        return w.reasons.get(g);
    }

    int order(int i) {
        argument(i >= 0);
        return i < now.cannons.size() ? now.cannons.indexOf(now.sequence().get(i)) : NONE;
    }

    int ahead(int m, int what) {
        argument(in(m, 0, 99) && in(what, 0, 4));
        World w = now.copy();
        w.hours(m);
        return new int[] {w.snow(), w.pond, w.readyOnes(), w.made - now.made, w.sums[3] - now.sums[3]}[what];
    }

    int readyAfter(int s) {
        index(in(s, 0, now.places.size() - 1));
        World w = now.copy();
        int hours = 0;
        while (hours < 301 && !w.ready(w.places.get(s))) {
            w.oneHour();
            hours++;
        }
        return hours < 301 ? hours : NONE;
    }

    int bestPlace(int nozzle, int m) {
        argument(in(nozzle, 0, 3) && in(m, 1, 99));
        List<int[]> found = new ArrayList<>();
        for (int s = 0; s < now.places.size(); s++) {
            World w = now.copy();
            w.cannon(s, nozzle);
            w.hours(m);
            found.add(new int[] {w.readyOnes(), w.snow(), s});
        }
        found.sort(Comparator.comparingInt((int[] f) -> -f[0]).thenComparingInt(f -> -f[1]).thenComparingInt(f -> f[2]));
        return found.isEmpty() ? NONE : found.get(0)[2];
    }

    int missing(int m) {
        argument(in(m, 1, 99));
        int[] ready = new int[100];
        for (int i = 0; i < 100; i++) {
            World w = now.copy();
            w.pour(10 * i);
            w.hours(m);
            ready[i] = w.readyOnes();
        }
        int most = java.util.Arrays.stream(ready).max().getAsInt();
        int i = 0;
        while (ready[i] < most) {
            i++;
        }
        return 10 * i;
    }

    int coldest(int n) {
        argument(in(n, 1, 24));
        int best = 23;
        for (int first = 23; first >= 0; first--) {
            best = colds(first, n) >= colds(best, n) ? first : best;
        }
        return best;
    }

    private int colds(int first, int n) {
        return n == 0 ? 0 : now.cold(now.hour + first) + colds(first + 1, n - 1);
    }

    int runScript(int n, long script) {
        argument(in(n, 1, 3) && script >= 0 && Long.toString(script).length() <= 5 * n);
        String digits = "0".repeat(5 * n - Long.toString(script).length()) + script;
        World w = now.copy();
        for (int i = 0; i < n; i++) {
            if (!command(w, digits.substring(5 * i, 5 * i + 5))) {
                return i;
            }
        }
        return NONE;
    }

    private static boolean command(World w, String d) {
        int b = d.charAt(1) - '0';
        int e = d.charAt(4) - '0';
        int xy = num(d, 3, 5);
        boolean slope = b < w.places.size();
        boolean gun = b < w.cannons.size();
        if (d.matches("100\\d\\d") && xy > 0) {
            w.hours(xy);
            return true;
        }
        if (d.matches("20\\d\\d\\d") && num(d, 2, 5) > 0) {
            w.sums[0] += w.pour(num(d, 2, 5));
            return true;
        }
        if (d.matches("3[0-3]0\\d\\d") && xy <= new int[] {99, 9999, 9, 50}[b]) {
            w.change(b, xy);
            return true;
        }
        if (d.matches("4\\d00\\d") && gun && e < w.places.size()) {
            w.cannons.get(b).at = w.places.get(e);
            w.cannons.get(b).mode = 0;
            return true;
        }
        if (d.matches("5\\d00[01]") && gun) {
            w.cannons.get(b).allowed = e == 1;
            return true;
        }
        if (d.matches("6\\d0\\d\\d") && slope) {
            w.places.get(b).target = xy;
            return true;
        }
        return d.matches("7\\d0\\d\\d") && slope && w.places.get(b).snow / w.places.get(b).area >= xy
            || d.matches("8000\\d") && w.readyOnes() == e
            || d.matches("9\\d00\\d") && gun && reason(w, b) == e;
    }

    int simulate(long seed, int m) {
        argument(in(m, 1, 99));
        World w = now.copy();
        long x = seed;
        for (int i = 0; i < m; i++) {
            x = x * 6364136223846793005L + 1442695040888963407L;
            int r = (int) (x >>> 33);
            if (r % 8 == 0) {
                w.wets.set(r / 8 % w.wets.size(), r / 256 % 19 - 9);
            }
            if (r % 8 == 1) {
                w.sums[0] += w.pour(1 + r / 8 % 100);
            }
            w.oneHour();
        }
        return 10 * w.snow() + w.readyOnes();
    }

    int save(int slot) {
        index(in(slot, 0, 1));
        slots[slot] = now.copy();
        return now.hour;
    }

    int restore(int slot) {
        index(in(slot, 0, 1));
        state(slots[slot] != null);
        now = slots[slot].copy();
        past.clear();
        return now.hour;
    }
}
