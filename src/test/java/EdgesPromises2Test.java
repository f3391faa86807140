/** Promises 14 to 24: each boundary case that they name. */
public final class EdgesPromises2Test {
    /** What is no number of anything; NONE is one for plan() and rides(). */
    private static final int[] WILD = {-2, Integer.MIN_VALUE, Integer.MAX_VALUE, 1 << 30, -(1 << 28), 1000};
    private static final String FLEET = "sound 20;boat a at 18 tight 3 rosin 4;boat b at 20 tight 0 rosin 0;boat c at 5 tight 0 rosin 0;"
        + "boat d at 5 tight 9 rosin 9;score a 1;score a 2;score c 2;score c 3;swamp mile=7;slips tight+1;";

    public static void main(String[] args) {
        later();
        lands();
        cat();
        meets();
        plan();
        strung();
        better();
        rides();
        see();
        which();
        tells();
        Check.finish();
    }

    private static CelloBoats empty() {
        return Check.with("sound 20;");
    }

    private static void later() {
        Edge.section("14");
        CelloBoats x = Check.with(FLEET);
        Edge.of("Of a BOAT behind n HOURS AHEAD (0 .. 60): 0 mile, 1 how tight, 2 rosin, 3 whether SUNK.");
        int[][] a = {{18, 3, 4, 0}, {19, 4, 3, 0}, {20, 5, 2, 0}, {20, 5, 2, 0}};
        int[][] c = {{5, 0, 0, 0}, {6, 1, 0, 0}, {7, 2, 0, 1}, {7, 2, 0, 1}};
        for (int n = 0; n < 4; n++) {
            for (int what = 0; what < 4; what++) {
                Check.due("a behind " + n + ", " + what, x.later(0, n, what), a[n][what]);
                Check.due("c behind " + n + ", " + what, x.later(2, n, what), c[n][what]);
            }
        }
        Check.due("60", x.later(0, 60, 1), 5);
        Check.due("nothing has changed", x.has(4) + x.boat(0, 6) + x.has(9), 0);

        Edge.of("NONE when there is none such, n can't be, or for others.");
        Check.due("61", x.later(0, 61, 0), -1);
        Check.due("n -1", x.later(0, -1, 0), -1);
        Check.due("what 4", x.later(0, 0, 4), -1);
        Check.due("what -1", x.later(0, 0, -1), -1);
        Check.due("boat 4", x.later(4, 0, 0), -1);
        Check.due("boat -1", x.later(-1, 0, 0), -1);
        for (int n : WILD) {
            Check.due("boat " + n, x.later(n, 0, 0), -1);
            Check.due("n " + n, x.later(0, n, 0), -1);
            Check.due("what " + n, x.later(0, 0, n), -1);
        }
    }

    private static void lands() {
        Edge.section("15");
        CelloBoats x = Check.with(FLEET);
        Edge.of("Behind how many HOURS AHEAD (0: now; 60 at most) a BOAT is LANDED first;");
        Check.due("a", x.lands(0), 2);
        Check.due("b is landed now", x.lands(1), 0);
        CelloBoats far = Check.with("sound 60;boat a at 0 tight 0 rosin 0;score a 1;");
        Check.due("60", far.lands(0), 60);
        CelloBoats farther = Check.with("sound 60;boat a at 0 tight 0 rosin 0;score a 1;score a 2;wolf 59 2;");
        Check.due("61", farther.lands(0), -1);

        Edge.of("NONE when it is not, or there is none such.");
        Check.due("c sinks", x.lands(2), -1);
        Check.due("d has no score", x.lands(3), -1);
        x.hours(2);
        Check.due("c is sunk", x.lands(2), -1);
        Check.due("a is landed", x.lands(0), 0);
        Check.due("boat 4", x.lands(4), -1);
        Check.due("boat -1", x.lands(-1), -1);
        for (int n : WILD) {
            Check.due("boat " + n, x.lands(n), -1);
        }
    }

    private static void cat() {
        Edge.section("16");
        Edge.of("The first BOAT that SINKS in HOURS of numbers 0 .. 59: the number (what 0), the BOAT (1).");
        CelloBoats x = Check.with(FLEET);
        Check.due("number", x.cat(0), 1);
        Check.due("boat", x.cat(1), 2);
        String three = "sound 60;boat a at 3 tight 0 rosin 0;boat b at 4 tight 0 rosin 0;boat c at 4 tight 0 rosin 0;"
            + "score a 0;score b 0;score c 0;swamp mile=";
        Check.due("of like ones the first boat", Check.with(three + "6;").cat(1), 1);
        Check.due("their number", Check.with(three + "6;").cat(0), 1);
        Check.due("the first hour", Check.with(three + "5;").cat(0), 0);
        CelloBoats late = Check.with("sound 60;boat a at 0 tight 0 rosin 61;score a 0;carry 0;swamp rosin=1;");
        Check.due("60", late.cat(0), -1);
        Check.due("60, boat", late.cat(1), -1);
        late.hours(1);
        Check.due("59", late.cat(0), 59);
        Check.due("59, boat", late.cat(1), 0);

        Edge.of("NONE without one, without a sound, or for others.");
        Check.due("none sinks", Check.with(three + "0;").cat(0), -1);
        Check.due("none sinks, boat", Check.with(three + "0;").cat(1), -1);
        x.hours(2);
        Check.due("c has sunk already", x.cat(0), -1);
        Check.due("without boats", empty().cat(0), -1);
        Check.due("without a sound", new CelloBoats().cat(0), -1);
        Check.due("without a sound, boat", new CelloBoats().cat(1), -1);
        x.undo();
        Check.due("what 2", x.cat(2), -1);
        Check.due("what -1", x.cat(-1), -1);
        for (int n : WILD) {
            Check.due("what " + n, x.cat(n), -1);
        }
    }

    private static void meets() {
        Edge.section("17");
        CelloBoats x = Check.with(FLEET);
        Edge.of("Behind how many HOURS AHEAD (0: now; 60 at most) two BOATS are at one mile first;");
        Check.due("c and d now", x.meets(2, 3), 0);
        Check.due("a and b, landed", x.meets(0, 1), 2);
        Check.due("b and a", x.meets(1, 0), 2);
        CelloBoats far = Check.with("sound 60;boat a at 0 tight 0 rosin 0;boat b at 60 tight 0 rosin 0;boat c at 0 tight 0 rosin 1;"
            + "score a 1;score c 1;carry 1-rosin;");
        Check.due("60", far.meets(0, 1), 60);
        Check.due("61", far.meets(2, 1), -1);

        Edge.of("NONE when they are not, there are none such, or they are one.");
        Check.due("a and d never", x.meets(0, 3), -1);
        Check.due("one", x.meets(2, 2), -1);
        Check.due("boat 4", x.meets(0, 4), -1);
        Check.due("4, boat", x.meets(4, 0), -1);
        Check.due("boat -1", x.meets(0, -1), -1);
        Check.due("-1, boat", x.meets(-1, 0), -1);
        Check.due("none and none", x.meets(4, 4), -1);
        for (int n : WILD) {
            Check.due("other " + n, x.meets(0, n), -1);
            Check.due("one " + n, x.meets(n, 0), -1);
        }
        x.hours(2);
        Check.due("sunk at 7, d at 5", x.meets(2, 3), -1);
    }

    private static void plan() {
        Edge.section("18");
        CelloBoats x = Check.with(FLEET + "carry note-3;");
        Edge.of("A PLAN for a BOAT to a mile: how many NOTES (k NONE), the k-th.");
        Check.due("none is needed", x.plan(2, 5, -1), 0);
        Check.due("of none the first", x.plan(2, 5, 0), -1);
        Check.due("one", x.plan(2, 9, -1), 1);
        Check.due("the first", x.plan(2, 9, 0), 7);
        Check.due("the second", x.plan(2, 9, 1), -1);
        Check.due("to mile 0", x.plan(2, 0, -1), 2);
        Check.due("to mile 0, first", x.plan(2, 0, 0), 0);
        Check.due("to mile 0, second", x.plan(2, 0, 1), 0);
        Check.due("to the last", x.plan(0, 20, 0), 5);
        Check.due("nothing has changed", x.boat(2, 0) * 10 + x.has(9), 50);

        Edge.of("NONE without one, when it is SUNK, or there is none such.");
        Check.due("where it sinks", x.plan(2, 7, -1), -1);
        Check.due("where it sinks, k", x.plan(2, 7, 0), -1);
        Check.due("from the last", x.plan(1, 19, -1), -1);
        Check.due("at the last", x.plan(1, 20, -1), 0);
        Check.due("mile 21", x.plan(0, 21, -1), -1);
        Check.due("mile -1", x.plan(0, -1, -1), -1);
        Check.due("boat 4", x.plan(4, 5, -1), -1);
        Check.due("boat -1", x.plan(-1, 5, -1), -1);
        for (int n : WILD) {
            Check.due("boat " + n, x.plan(n, 5, -1), -1);
            Check.due("mile " + n, x.plan(0, n, -1), -1);
            Check.due("k " + n, x.plan(2, 9, n), -1);
            Check.due("k " + n + " of none", x.plan(2, 5, n), -1);
        }
        CelloBoats sunk = Check.with(FLEET);
        sunk.hours(2);
        Check.due("sunk, where it is", sunk.plan(2, 7, -1), -1);
        Check.due("sunk, elsewhere", sunk.plan(2, 8, -1), -1);
        sunk.raise(2);
        Check.due("raised, where it is", sunk.plan(2, 7, -1), 0);
        Check.due("raised, elsewhere", sunk.plan(2, 8, -1), 1);
        Check.due("without a sound", new CelloBoats().plan(0, 0, -1), -1);
    }

    private static void strung() {
        Edge.section("19");
        CelloBoats x = Check.with("sound 20;boat a at 0 tight 1 rosin 0;boat b at 20 tight 0 rosin 0;boat c at 0 tight 0 rosin 0;"
            + "boat d at 0 tight 0 rosin 0;score a 0;score b 0;score d 1;carry tight/10;swamp note=1;");
        Edge.of("STRUNG, n HOURS AHEAD (1 .. 30): how tight (what 0), behind how many HOURS it is LANDED (1).");
        Check.due("how tight", x.strung(0, 30, 0), 70);
        Check.due("behind", x.strung(0, 30, 1), 3);
        CelloBoats near = Check.with("sound 20;boat a at 19 tight 1 rosin 0;score a 0;");
        Check.due("n 1", near.strung(0, 1, 0), 0);
        Check.due("n 1, behind", near.strung(0, 1, 1), 1);
        Check.due("nothing has changed", x.boat(0, 1) * 10 + x.has(9), 10);

        Edge.of("NONE when it is not by any, it is LANDED, there is none such, n can't be, or for others.");
        Check.due("not by any", x.strung(0, 2, 0), -1);
        Check.due("not by any, behind", x.strung(0, 2, 1), -1);
        Check.due("landed", x.strung(1, 30, 0), -1);
        Check.due("landed, behind", x.strung(1, 30, 1), -1);
        Check.due("without a score", x.strung(2, 30, 0), -1);
        Check.due("sinks", x.strung(3, 30, 0), -1);
        x.hours(1);
        Check.due("sunk", x.strung(3, 30, 0), -1);
        Check.due("n 0", x.strung(0, 0, 0), -1);
        Check.due("n 31", x.strung(0, 31, 0), -1);
        Check.due("n -1", x.strung(0, -1, 0), -1);
        Check.due("what 2", x.strung(0, 30, 2), -1);
        Check.due("what -1", x.strung(0, 30, -1), -1);
        Check.due("boat 4", x.strung(4, 30, 0), -1);
        Check.due("boat -1", x.strung(-1, 30, 0), -1);
        for (int n : WILD) {
            Check.due("boat " + n, x.strung(n, 30, 0), -1);
            Check.due("n " + n, x.strung(0, n, 0), -1);
            Check.due("what " + n, x.strung(0, 30, n), -1);
        }
        dueLast("strung", false);
    }

    /** At HOUR 970 30 HOURS AHEAD can't be, at 969 they can. */
    private static void dueLast(String what, boolean better) {
        for (int hour = 969; hour <= 970; hour++) {
            CelloBoats x = Check.with("sound 60;boat a at 0 tight 0 rosin 0;score a 0;carry note+tight;");
            Check.put(x, Check.image(hour / 256, hour % 256, 0, 0, 0, 0, 0, 0));
            Check.due("on", x.on(), true);
            for (int n = 28; n <= 30; n++) {
                int got = better ? x.better(0, n, 1) : x.strung(0, n, 0);
                Check.due(what + " " + n + " at " + hour, got, hour + n > 999 ? -1 : better ? 7 : 9);
            }
        }
    }

    private static void better() {
        Edge.section("20");
        CelloBoats x = Check.with("sound 20;boat a at 6 tight 0 rosin 0;boat b at 20 tight 0 rosin 0;boat c at 0 tight 0 rosin 0;"
            + "boat d at 0 tight 0 rosin 0;score a 0;score a 4;score b 0;score d 1;score d 0;carry note;swamp mile=1;");
        Edge.of("A BETTER score, n HOURS AHEAD (1 .. 30): the place (what 0), the NOTE (1), behind how many HOURS it is LANDED (2).");
        Check.due("place", x.better(0, 30, 0), 0);
        Check.due("note", x.better(0, 30, 1), 5);
        Check.due("behind", x.better(0, 30, 2), 3);
        CelloBoats near = Check.with("sound 20;boat a at 19 tight 1 rosin 0;score a 0;carry note;");
        Check.due("n 1", near.better(0, 1, 1), 1);
        Check.due("n 1, behind", near.better(0, 1, 2), 1);
        Check.due("nothing has changed", x.score(0, 0) * 10 + x.has(9), 0);

        Edge.of("NONE when none is, there is none such, n can't be, or for others.");
        Check.due("none in 2", x.better(0, 2, 0), -1);
        Check.due("none in 2, behind", x.better(0, 2, 2), -1);
        Check.due("landed", x.better(1, 30, 0), -1);
        Check.due("landed, behind", x.better(1, 30, 2), -1);
        Check.due("without a score", x.better(2, 30, 0), -1);
        Check.due("another than the one that sinks it", x.better(3, 30, 0), 0);
        x.hours(1);
        Check.due("sunk", x.better(3, 30, 0), -1);
        Check.due("n 0", x.better(0, 0, 0), -1);
        Check.due("n 31", x.better(0, 31, 0), -1);
        Check.due("n -1", x.better(0, -1, 0), -1);
        Check.due("what 3", x.better(0, 30, 3), -1);
        Check.due("what -1", x.better(0, 30, -1), -1);
        Check.due("boat 4", x.better(4, 30, 0), -1);
        Check.due("boat -1", x.better(-1, 30, 0), -1);
        for (int n : WILD) {
            Check.due("boat " + n, x.better(n, 30, 0), -1);
            Check.due("n " + n, x.better(0, n, 0), -1);
            Check.due("what " + n, x.better(0, 30, n), -1);
        }
        dueLast("better", true);
    }

    private static void rides() {
        Edge.section("21");
        CelloBoats x = Check.with(FLEET + "rider p key 2;rider q key 3;rider r key 2;rider s key 7;");
        Edge.of("RIDES: how many ride (rider NONE), the BOAT of a RIDER (NONE).");
        Check.due("how many", x.rides(-1), 3);
        int[] due = {0, 2, 0, -1};
        for (int r = 0; r < 4; r++) {
            Check.due("rider " + r, x.rides(r), due[r]);
        }
        Check.due("without riders", Check.with(FLEET).rides(-1), 0);
        Check.due("without boats", Check.with("sound 20;rider r key 1;").rides(-1), 0);
        Check.due("without boats, r", Check.with("sound 20;rider r key 1;").rides(0), -1);

        Edge.of("NONE when there is none such, or without a sound.");
        Check.due("rider 4", x.rides(4), -1);
        for (int n : WILD) {
            Check.due("rider " + n, x.rides(n), -1);
        }
        Check.due("without a sound", new CelloBoats().rides(-1), -1);
        Check.due("without a sound, 0", new CelloBoats().rides(0), -1);
    }

    private static void see() {
        Edge.section("22");
        CelloBoats x = Check.with(FLEET);
        Edge.of("The tape (it goes) tells what is SEEN, 1 to 16 rows of two bytes: how many rows;");
        Check.due("1", Check.see(x, 0, 0), 1);
        Check.due("it went", x.feed(0, 0, 0, 0, 0), 20);
        x.end(0);
        Check.due("16", Check.see(x, new int[32]), 16);
        Check.due("rows", x.has(8), 16);
        Check.due("2 in their place", Check.see(x, 30, 8, 0, 7), 2);
        Check.due("rows 2", x.has(8), 2);

        Edge.of("NONE, refused (1), all staying, when it is none such, or without a sound.");
        int[][] none = {{}, {0}, {0, 0, 0}, new int[31], new int[33], new int[34], {31, 0}, {0, 9}, {255, 0}, {0, 255},
            {0, 0, 31, 0}, {0, 0, 0, 9}, {128, 128}};
        for (int k = 0; k < none.length; k++) {
            Check.due("none such " + k, Check.see(x, none[k]), -1);
            Check.due("refused " + k, x.status(1), k + 1);
            Check.due("rows stay " + k, x.has(8), 2);
            Check.due("it went " + k, x.feed(0, 0, 0, 0, 0), 20);
            x.end(0);
        }
        // what stands behind the end of the tape does not count
        x.feed(0, 0, 0, 0, 0);
        x.end(3);
        Check.due("a row and a half", x.see(), -1);
        x.feed(0, 0, 0, 0, 0);
        x.end(1);
        Check.due("half a row", x.see(), -1);
        Check.see(x, 0, 1);
        Check.due("a by 1", x.which(), 1);
        Check.see(x, 0, 2, 31, 0);
        Check.due("a by 1 still", x.which(), 1);
        CelloBoats without = new CelloBoats();
        Check.due("without a sound", Check.see(without, 0, 0), -1);
        Check.due("without a sound, refused", without.status(1), 1);
        Check.due("without a sound, rows", without.has(8), 0);
        Check.due("without a sound, it went", without.feed(0, 0, 0, 0, 0), 20);
    }

    private static void which() {
        Edge.section("23");
        CelloBoats x = Check.with(FLEET);
        Edge.of("BOATS by what is SEEN (all, if nothing is), as bits;");
        Check.due("all", x.which(), 15);
        int[][] rows = {{0, 1}, {0, 2}, {0, 8}, {1, 8}, {2, 8}, {1, 3}, {0, 2, 1, 3}, {0, 1, 1, 3}, {0, 0}};
        int[] due = {1, 4, 10, 10, 15, 4, 4, 0, 0};
        for (int k = 0; k < rows.length; k++) {
            Check.see(x, rows[k]);
            Check.due("rows " + k, x.which(), due[k]);
        }
        Check.due("without boats", empty().which(), 0);
        Check.due("without a sound", new CelloBoats().which(), 0);
        String six = "sound 20;boat a at 0 tight 0 rosin 0;boat b at 0 tight 0 rosin 0;boat c at 0 tight 0 rosin 0;"
            + "boat d at 0 tight 0 rosin 0;boat e at 0 tight 0 rosin 0;boat f at 0 tight 0 rosin 0;score f 4;";
        CelloBoats y = Check.with(six);
        Check.due("six", y.which(), 63);
        Check.see(y, 0, 4);
        Check.due("the sixth", y.which(), 32);

        Edge.of("HOURS that are none are by none.");
        CelloBoats z = Check.with("sound 20;boat a at 0 tight 0 rosin 0;");
        Check.put(z, Check.image(3, 228, 0, 0, 0, 0, 0));
        z.on();
        Check.see(z, 2, 8);
        Check.due("the hour to 999", z.which(), 1);
        Check.see(z, 3, 8);
        Check.due("the hour behind it", z.which(), 0);
        z.hours(3);
        Check.see(z, 0, 8);
        Check.due("at 999", z.which(), 0);
        Check.put(z, "sound 20;boat a at 0 tight 0 rosin 0;");
        z.sound();
        Check.put(z, Check.image(3, 231, 0, 0, 0, 0, 0));
        z.on();
        Check.due("at 999 nothing is seen", z.which(), 1);
    }

    private static void tells() {
        Edge.section("24");
        CelloBoats x = Check.with(FLEET);
        Edge.of("TELLING: the number of the HOUR AHEAD (what 0), how many BOATS are left at the most (1).");
        Check.due("hour", x.tells(0), 0);
        Check.due("left", x.tells(1), 2);
        CelloBoats like = Check.with("sound 20;boat a at 0 tight 0 rosin 0;boat b at 1 tight 0 rosin 0;score a 1;score b 1;");
        Check.due("the hour in which one has landed", like.tells(0), 19);
        Check.due("one is left", like.tells(1), 1);

        Edge.of("NONE without a BOAT left, when no HOUR comes, or for others.");
        Check.due("what 2", x.tells(2), -1);
        Check.due("what -1", x.tells(-1), -1);
        for (int n : WILD) {
            Check.due("what " + n, x.tells(n), -1);
        }
        Check.see(x, 0, 7);
        Check.due("no boat left", x.tells(0), -1);
        Check.due("no boat left, at the most", x.tells(1), -1);
        Check.due("without boats", empty().tells(0), -1);
        Check.due("without a sound", new CelloBoats().tells(1), -1);
        CelloBoats late = Check.with("sound 20;boat a at 0 tight 0 rosin 0;");
        Check.put(late, Check.image(3, 230, 0, 0, 0, 0, 0));
        late.on();
        Check.due("one hour comes", late.tells(0), 0);
        Check.due("one hour comes, left", late.tells(1), 1);
        late.hours(1);
        Check.due("no hour comes", late.tells(0), -1);
        Check.due("no hour comes, left", late.tells(1), -1);
    }
}
