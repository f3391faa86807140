/** Promises 25 to 32: ACTS, HOURS by the seed, what is undone. */
public final class ActsTest {
    private static final String ONE = "sound 9;boat a at 0 tight 5 rosin 90;boat b at 9 tight 0 rosin 0;score a 1;score a 2;";

    public static void main(String[] args) {
        tune();
        rosin();
        raise();
        note();
        hours();
        chance();
        undo();
        Check.finish();
    }

    private static void tune() {
        CelloBoats x = Check.with(ONE);
        Check.due("tune so tight", x.tune(0, 5), false);
        Check.due("tune 100", x.tune(0, 100), false);
        Check.due("tune -1", x.tune(0, -1), false);
        Check.due("tune boat 2", x.tune(2, 1), false);
        Check.due("tune boat -1", x.tune(-1, 1), false);
        Check.due("status", x.status(2), 5);
        Check.due("no acts", x.has(9), 0);
        Check.due("tune 99", x.tune(0, 99), true);
        Check.due("99", x.boat(0, 1), 99);
        Check.due("tune 0", x.tune(0, 0), true);
        Check.due("0", x.boat(0, 1), 0);
        Check.due("tune a landed one", x.tune(1, 1), true);
        Check.due("acts", x.has(9), 3);
    }

    private static void rosin() {
        CelloBoats x = Check.with(ONE);
        Check.due("rosin 0", x.rosin(0, 0), -1);
        Check.due("rosin 100", x.rosin(0, 100), -1);
        Check.due("rosin -1", x.rosin(0, -1), -1);
        Check.due("rosin boat 2", x.rosin(2, 1), -1);
        Check.due("rosin 8", x.rosin(0, 8), 98);
        Check.due("rosin 99", x.rosin(0, 99), 99);
        Check.due("rosin full", x.rosin(0, 1), -1);
        Check.due("rosin of one without", x.rosin(1, 99), 99);
        Check.due("status", x.status(2), 5);
        Check.due("acts", x.has(9), 3);
    }

    private static void raise() {
        CelloBoats x = Check.with("sound 9;boat a at 4 tight 5 rosin 3;score a 1;score a 2;swamp all;slips 7;");
        Check.due("raise one not sunk", x.raise(0), false);
        Check.due("hours", x.hours(3), 0);
        Check.due("sunk", x.has(6), 1);
        Check.due("slipped all the same", x.boat(0, 1), 7);
        Check.due("bowed once", x.boat(0, 2), 2);
        Check.due("place", x.boat(0, 6), 1);
        Check.due("raise", x.raise(0), true);
        Check.due("where it was", x.boat(0, 0), 5);
        Check.due("raise again", x.raise(0), false);
        Check.due("raise boat 1", x.raise(1), false);
        Check.due("raise boat -1", x.raise(-1), false);
        Check.due("status", x.status(2), 4);
        Check.due("undo", x.undo(), true);
        Check.due("sunk again", x.boat(0, 3), 1);
    }

    private static void note() {
        CelloBoats x = Check.with(ONE);
        Check.due("note that it is", x.note(0, 1, 2), false);
        Check.due("note 8", x.note(0, 1, 8), false);
        Check.due("note -1", x.note(0, 1, -1), false);
        Check.due("note place 2", x.note(0, 2, 1), false);
        Check.due("note place -1", x.note(0, -1, 1), false);
        Check.due("note without a score", x.note(1, 0, 1), false);
        Check.due("note boat 2", x.note(2, 0, 1), false);
        Check.due("status", x.status(2), 7);
        Check.due("note 7", x.note(0, 1, 7), true);
        Check.due("7", x.score(0, 1), 7);
        Check.due("note 0", x.note(0, 0, 0), true);
        Check.due("0", x.score(0, 0), 0);
        Check.due("acts", x.has(9), 2);
    }

    private static void hours() {
        Check.due("hours without a sound", new CelloBoats().hours(1), -1);
        CelloBoats x = Check.with("sound 60;boat a at 58 tight 0 rosin 0;boat b at 59 tight 0 rosin 0;boat c at 0 tight 0 rosin 0;"
            + "score a 0;score b 0;score c 0;score c 1;score c 2;");
        Check.due("hours 0", x.hours(0), -1);
        Check.due("hours 101", x.hours(101), -1);
        Check.due("hours -1", x.hours(-1), -1);
        Check.due("status", x.status(3), 3);
        Check.due("hours 2", x.hours(2), 2);
        Check.due("round and round", x.boat(2, 6), 2);
        Check.due("hours 2 more", x.hours(2), 0);
        Check.due("round", x.boat(2, 6), 1);
        Check.due("hours 100", x.hours(100), 1);
        Check.due("hour", x.has(4), 104);
        Check.due("one act each", x.has(9), 3);
        Check.due("landed and not bowed", x.boat(0, 0), 60);
        CelloBoats empty = Check.with("sound 60;");
        Check.due("hours without boats", empty.hours(100), 0);
        for (int i = 0; i < 8; i++) {
            empty.hours(100);
        }
        Check.due("hours to 999", empty.hours(99), 0);
        Check.due("hours beyond", empty.hours(1), -1);
        Check.due("999", empty.has(4), 999);
    }

    /** The wind of each of the first HOURS by a seed, NONE where there is no squall. */
    private static int[] winds(long seed, int squall, int n) {
        long x = seed;
        int[] row = new int[n];
        for (int i = 0; i < n; i++) {
            x = (1103515245L * x + 12345) % (1L << 31);
            row[i] = -1;
            if (x / 64 % 100 < squall) {
                x = (1103515245L * x + 12345) % (1L << 31);
                row[i] = (int) (x / 64 % 10);
            }
        }
        return row;
    }

    private static void chance() {
        Check.due("chance without a sound", new CelloBoats().chance(1), -1);
        CelloBoats x = Check.with("sound 60;boat a at 0 tight 0 rosin 0;score a 1;carry 0;slips tight*0+wind;wind 3;squall 40;");
        Check.due("chance 0", x.chance(0), -1);
        Check.due("chance 101", x.chance(101), -1);
        Check.due("status", x.status(3), 2);
        int[] due = winds(1, 40, 60);
        int squalls = 0;
        for (int i = 0; i < 30; i++) {
            Check.due("squall in hour " + i, x.chance(1), due[i] >= 0 ? 1 : 0);
            Check.due("wind of hour " + i, x.boat(0, 1), due[i] >= 0 ? due[i] : 3);
        }
        for (int i = 30; i < 60; i++) {
            squalls += due[i] >= 0 ? 1 : 0;
        }
        Check.due("squalls of 30 hours", x.chance(30), squalls);
        Check.due("acts", x.has(9), 20);
        x.hours(1);
        Check.due("the wind told", x.boat(0, 1), 3);
        Check.due("seed -1", x.seed(-1), false);
        Check.due("status 5", x.status(5), 1);
        Check.due("seed", x.seed(2147483647), true);
        due = winds(2147483647, 40, 2);
        for (int i = 0; i < 2; i++) {
            Check.due("squall by a seed " + i, x.chance(1), due[i] >= 0 ? 1 : 0);
            // the seed stays when the act is undone
            x.undo();
        }
        Check.due("seed 0", x.seed(0), true);
        Check.due("squall by 0", x.chance(1), winds(0, 40, 1)[0] >= 0 ? 1 : 0);
        always();
    }

    private static void always() {
        CelloBoats x = Check.with("sound 60;squall 100;");
        Check.due("always", x.chance(100), 100);
        CelloBoats never = Check.with("sound 60;");
        never.seed(5);
        Check.due("never", never.chance(7), 0);
        CelloBoats calm = Check.with("sound 60;squall 100;");
        Check.put(calm, "sound 60;");
        calm.sound();
        for (int i = 0; i < 9; i++) {
            Check.due("never without a squall told", calm.chance(100), 0);
        }
        // without squalls there is a draw for each hour all the same, and the seed outlives a sound
        Check.put(never, "sound 60;boat a at 0 tight 0 rosin 0;score a 1;carry 0;slips wind+10;squall 50;");
        never.sound();
        long seed = 5;
        for (int i = 0; i < 7; i++) {
            seed = (1103515245L * seed + 12345) % (1L << 31);
        }
        int[] due = winds(seed, 50, 9);
        for (int i = 0; i < 9; i++) {
            Check.due("seed goes on " + i, never.chance(1), due[i] >= 0 ? 1 : 0);
            Check.due("wind goes on " + i, never.boat(0, 1), 10 + Math.max(0, due[i]));
        }
    }

    private static void undo() {
        CelloBoats x = Check.with("sound 9;boat a at 7 tight 5 rosin 9;boat b at 0 tight 5 rosin 9;score a 1;score a 2;score b 3;"
            + "slips tight-1;swamp mile=3;");
        Check.due("undo nothing", x.undo(), false);
        Check.due("status", x.status(4), 1);
        x.tune(0, 9);
        x.rosin(0, 5);
        x.note(0, 1, 6);
        Check.due("hours", x.hours(5), 1);
        x.raise(1);
        x.chance(2);
        Check.due("acts", x.has(9), 6);
        Check.due("kept", x.has(7), 2);
        x.undo();
        Check.due("hour 5", x.has(4), 5);
        Check.due("mile", x.boat(1, 0), 3);
        x.undo();
        Check.due("sunk", x.has(6), 1);
        x.undo();
        int[] due = {7, 9, 14, 0, 0, 2, 0};
        for (int what = 0; what < 7; what++) {
            Check.due("undone " + what, x.boat(0, what), due[what]);
        }
        Check.due("hour 0", x.has(4), 0);
        Check.due("kept undone", x.has(7), 0);
        Check.due("note still", x.score(0, 1), 6);
        x.undo();
        Check.due("note undone", x.score(0, 1), 2);
        x.undo();
        Check.due("rosin undone", x.boat(0, 2), 9);
        x.undo();
        Check.due("tight undone", x.boat(0, 1), 5);
        Check.due("none is left", x.undo(), false);
        Check.due("status 2", x.status(4), 2);
    }
}
