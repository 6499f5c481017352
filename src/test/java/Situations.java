/** Objects in which a refused call, or one that must change nothing, would leave a trace if it did more. */
final class Situations {
    /** One slope, one gun, 24 temperatures; no text, nothing remembered, nothing saved. */
    static SnowGuns fresh() {
        return new SnowGuns();
    }

    /**
     * Three slopes (none of the guns at slope 1), three guns (one that is not allowed, one that warms, one that runs),
     * five temperatures, entries in the book, 14 of 18 states remembered, both slots saved, and a text that is right.
     */
    static SnowGuns used() {
        SnowGuns x = Check.loaded("P600100325s4510s3799s2203g03g21g20w-9-5-2+3-8");
        x.allow(0, false);
        x.pass(2);
        x.save(0);
        x.set(3, 20);
        x.fill(5);
        x.pass(3);
        x.setWet(4, -7);
        x.setSlope(1, 1, 3);
        x.save(1);
        x.pass(2);
        x.setSlope(2, 2, 60);
        x.bring(1, 0);
        x.set(1, 60);
        x.set(2, 4);
        x.set(0, 50);
        x.pass(9);
        x.fill(2);
        x.setWet(0, -8);
        x.bring(1, 2);
        x.pass(1);
        return x;
    }

    /** Six slopes, eight guns, a text of 120 signs that is wrong; one state is remembered, one slot is saved. */
    static SnowGuns full() {
        SnowGuns x = Check.loaded("P990999000s1101s2202s3303s4404s5505s6606g00g11g22g33g40g51g02g13w-9-4-2+1");
        while (x.append('+') < 120) {
            x.pass(1);
        }
        x.undo();
        x.save(1);
        x.restore(1);
        x.pass(3);
        return x;
    }

    /** No slope, no gun, one temperature; three states are remembered, and a pond of capacity 0. */
    static SnowGuns bare() {
        SnowGuns x = Check.loaded("P990009000s1101w-9");
        x.pass(1);
        x.removeSlope(0);
        x.set(1, 0);
        return x;
    }

    private Situations() {
    }
}
