/** Term II: each boundary case of BOWS, HOURS, ACTS, what is KEPT, and DRAWS. */
public final class EdgesTerm2Test {
    public static void main(String[] args) {
        Edge.section("II");
        landedAndSunk();
        bowed();
        carried();
        cutAtTheEnds();
        swamped();
        slipped();
        rosined();
        roundAndRound();
        hours();
        acts();
        squalls();
        undone();
        kept();
        draws();
        Check.finish();
    }

    private static void dueBoat(String what, CelloBoats x, int boat, int... due) {
        for (int k = 0; k < due.length; k++) {
            Check.due(what + " boat(" + boat + ", " + k + ")", x.boat(boat, k), due[k]);
        }
    }

    /** Behind one HOUR of a BOAT at a mile, tight 50, rosin 2, bowed by 3: mile, how tight, rosin, SUNK. */
    private static void bow(int at, String rest, int... due) {
        CelloBoats x = Check.with("sound 20;boat a at " + at + " tight 50 rosin 2;score a 3;" + rest);
        x.hours(1);
        dueBoat("at " + at + " " + rest, x, 0, due);
    }

    private static void landedAndSunk() {
        Edge.of("A BOAT is LANDED at the last mile; it may be SUNK (none is at first).");
        CelloBoats x = Check.with("sound 20;boat a at 20 tight 0 rosin 0;boat b at 19 tight 0 rosin 0;boat c at 0 tight 0 rosin 0;swamp all;");
        dueBoat("at the last", x, 0, 20, 0, 0, 0, 1);
        dueBoat("one ahead of it", x, 1, 19, 0, 0, 0, 0);
        dueBoat("at the first", x, 2, 0, 0, 0, 0, 0);
        Check.due("landed", x.has(5), 1);
        Check.due("sunk", x.has(6), 0);
    }

    private static void bowed() {
        Edge.of("It is bowed, if it is neither, and has a score:");
        CelloBoats x = Check.with("sound 20;boat a at 20 tight 5 rosin 5;boat b at 3 tight 5 rosin 5;boat c at 3 tight 5 rosin 5;"
            + "score a 1;score a 2;score c 1;score c 2;slips tight+1;swamp all;");
        x.hours(1);
        dueBoat("landed", x, 0, 20, 5, 5, 0, 1, 2, 0);
        dueBoat("without a score", x, 1, 3, 5, 5, 0, 0, 0, 0);
        dueBoat("bowed once", x, 2, 4, 6, 4, 1, 0, 2, 1);
        x.hours(1);
        dueBoat("landed still", x, 0, 20, 5, 5, 0, 1, 2, 0);
        dueBoat("sunk", x, 2, 4, 6, 4, 1, 0, 2, 1);
    }

    private static void carried() {
        Edge.of("-9 .. 9 (below is -9, above 9; 0, if there is a wolf of that mile and NOTE)");
        bow(10, "carry 8;", 18);
        bow(10, "carry 9;", 19);
        bow(10, "carry 10;", 19);
        bow(10, "carry 9999;", 19);
        bow(10, "carry 0-8;", 2);
        bow(10, "carry 0-9;", 1);
        bow(10, "carry 0-10;", 1);
        bow(10, "carry 0-9999;", 1);
        bow(10, "carry 0;", 10);
        bow(10, "carry 9;wolf 10 3;", 10, 50, 1, 0);
        bow(10, "carry 0-9;wolf 10 3;", 10, 50, 1, 0);
        bow(10, "carry 9;wolf 10 2;wolf 9 3;wolf 11 3;wolf 19 3;", 19);
        bow(0, "carry 9;wolf 0 3;", 0);
    }

    private static void cutAtTheEnds() {
        Edge.of("no farther than to mile 0, to the last one;");
        bow(3, "carry 0-3;", 0);
        bow(3, "carry 0-4;", 0);
        bow(3, "carry 0-2;", 1);
        bow(0, "carry 0-9;", 0);
        bow(18, "carry 1;", 19);
        bow(18, "carry 2;", 20);
        bow(18, "carry 3;", 20);
        bow(19, "carry 9;", 20);
        bow(3, "carry 0-4;swamp went=0-3;", 0, 50, 1, 1);
        bow(3, "carry 0-4;swamp went=0-4;", 0, 50, 1, 0);
    }

    private static void swamped() {
        Edge.of("then, by what is so then, if the TEST of swamp holds, and it is not LANDED, it is SUNK;");
        bow(17, "carry 2;swamp all;", 19, 50, 1, 1);
        bow(17, "carry 3;swamp all;", 20, 50, 1, 0);
        bow(17, "carry 9;swamp all;", 20, 50, 1, 0);
        bow(17, "carry 2;swamp mile=19;", 19, 50, 1, 1);
        bow(17, "carry 2;swamp mile=17;", 19, 50, 1, 0);
        bow(17, "carry 2;swamp went=2 and tight=50 and rosin=2 and note=3;slips 1;", 19, 1, 1, 1);
        bow(17, "carry 2;swamp rosin=1 or tight=1;slips 1;", 19, 1, 1, 0);
        bow(0, "carry 0-1;swamp mile=0 and went=0;", 0, 50, 1, 1);
    }

    private static void slipped() {
        Edge.of("then (SUNK or not) it is as tight as the SUM of slips tells, 0 .. 99, by the mile where it is then;");
        bow(4, "slips 98;", 5, 98);
        bow(4, "slips 99;", 5, 99);
        bow(4, "slips 100;", 5, 99);
        bow(4, "slips 9999;", 5, 99);
        bow(4, "slips 1;", 5, 1);
        bow(4, "slips 0;", 5, 0);
        bow(4, "slips 0-1;", 5, 0);
        bow(4, "slips 0-9999;", 5, 0);
        bow(4, "slips mile*10+rosin;", 5, 52, 1, 0);
        bow(4, "slips mile*10+rosin;swamp all;", 5, 52, 1, 1);
        bow(19, "slips mile+note;", 20, 23, 1, 0, 1);
        bow(4, "slips mile;wolf 4 3;", 4, 4);
    }

    private static void rosined() {
        Edge.of("then its rosin is less by 1, if there is any.");
        CelloBoats x = Check.with("sound 20;boat a at 0 tight 0 rosin 2;score a 0;slips rosin;");
        int[] rosin = {1, 0, 0, 0};
        int[] tight = {2, 1, 0, 0};
        for (int k = 0; k < 4; k++) {
            x.hours(1);
            Check.due("rosin behind " + k, x.boat(0, 2), rosin[k]);
            Check.due("the rosin that slips knows " + k, x.boat(0, 1), tight[k]);
        }
        bow(4, "swamp all;", 5, 50, 1, 1);
        bow(19, "", 20, 50, 1, 0);
    }

    private static void roundAndRound() {
        Edge.of("a BOW of the next NOTE of its score, from the first one on, round and round (only a BOAT that is bowed goes on in it).");
        CelloBoats x = Check.with("sound 60;boat a at 0 tight 0 rosin 0;boat b at 0 tight 0 rosin 0;boat c at 58 tight 0 rosin 0;"
            + "score a 4;score b 0;score b 1;score b 2;score b 3;score b 4;score b 5;score c 1;score c 1;score c 1;slips note;");
        for (int k = 0; k < 14; k++) {
            Check.due("place of one", x.boat(0, 6), 0);
            Check.due("place of six " + k, x.boat(1, 6), k % 6);
            Check.due("place of one that lands " + k, x.boat(2, 6), Math.min(k, 2));
            x.hours(1);
            Check.due("note of one", x.boat(0, 1), 4);
            Check.due("note of six " + k, x.boat(1, 1), k % 6);
        }
        CelloBoats y = Check.with("sound 60;boat a at 0 tight 0 rosin 0;score a 1;score a 2;score a 3;swamp note=2;slips note;");
        y.hours(5);
        dueBoat("sunk by the second", y, 0, 2, 2, 0, 1, 0, 3, 2);
        y.raise(0);
        y.hours(1);
        dueBoat("on with the third", y, 0, 3, 3, 0, 0, 0, 3, 0);
    }

    private static CelloBoats atHour(String sound, int hour, int... rest) {
        CelloBoats x = Check.with(sound);
        int[] image = new int[2 + rest.length];
        image[0] = hour / 256;
        image[1] = hour % 256;
        System.arraycopy(rest, 0, image, 2, rest.length);
        Check.put(x, Check.image(image));
        Check.due("on", x.on(), true);
        return x;
    }

    private static void hours() {
        Edge.of("The HOUR is one more (999 at most).");
        CelloBoats x = atHour("sound 20;", 998);
        Check.due("hours 2", x.hours(2), -1);
        Check.due("chance 2", x.chance(2), -1);
        Check.due("hours 1", x.hours(1), 0);
        Check.due("999", x.has(4), 999);
        Check.due("no more", x.hours(1), -1);
        Check.due("no more by chance", x.chance(1), -1);
        Check.due("999 still", x.has(4), 999);
        x.undo();
        Check.due("by chance", x.chance(1), 0);
        Check.due("999 by chance", x.has(4), 999);

        Edge.of("The wind is that told.");
        CelloBoats y = Check.with("sound 20;boat a at 0 tight 0 rosin 0;score a 0;carry 0;slips 10+wind;wind 7;squall 100;");
        y.hours(1);
        Check.due("the wind told", y.boat(0, 1), 17);
        y.chance(5);
        y.hours(1);
        Check.due("the wind told, behind squalls", y.boat(0, 1), 17);
    }

    private static void acts() {
        Edge.of("a BOAT is tuned (as tight as told); gets rosin (99 at most);");
        CelloBoats x = Check.with("sound 20;boat a at 4 tight 50 rosin 97;score a 3;swamp all;");
        for (int tight : new int[] {0, 99, 1, 98}) {
            Check.due("tune", x.tune(0, tight), true);
            Check.due("tuned", x.boat(0, 1), tight);
        }
        Check.due("98", x.rosin(0, 1), 98);
        Check.due("99", x.rosin(0, 1), 99);
        x.undo();
        Check.due("99 at most", x.rosin(0, 2), 99);
        x.undo();
        Check.due("99 at most of 99", x.rosin(0, 99), 99);
        Check.due("it has 99", x.boat(0, 2), 99);

        Edge.of("is raised, if it is SUNK (it is where it was);");
        Check.due("not sunk", x.raise(0), false);
        x.hours(1);
        dueBoat("sunk", x, 0, 5, 98, 98, 1);
        Check.due("raised", x.raise(0), true);
        dueBoat("where it was", x, 0, 5, 98, 98, 0);

        Edge.of("a NOTE of a score is another one;");
        Check.due("the same", x.note(0, 0, 3), false);
        Check.due("another", x.note(0, 0, 4), true);
        Check.due("it is", x.score(0, 0), 4);
    }

    private static long next(long x) {
        return (1103515245L * x + 12345) % (1L << 31);
    }

    private static long draw(long x, int m) {
        return x / 64 % m;
    }

    private static void squalls() {
        Edge.of("ahead of each a DRAW of 100: below squall a DRAW of 10 is the wind of this HOUR.");
        String boat = "sound 20;boat a at 0 tight 0 rosin 0;score a 0;carry 0;slips 10+wind;wind 5;";
        for (int seed : new int[] {0, 1, 2, 77, 4711, 2147483647}) {
            long one = next(seed);
            int hundred = (int) draw(one, 100);
            CelloBoats x = Check.with(boat + "squall " + hundred + ";");
            x.seed(seed);
            Check.due("the draw is squall, seed " + seed, x.chance(1), 0);
            Check.due("the wind told, seed " + seed, x.boat(0, 1), 15);
            CelloBoats y = Check.with(boat + "squall " + (hundred + 1) + ";");
            y.seed(seed);
            Check.due("the draw is below squall, seed " + seed, y.chance(1), 1);
            Check.due("the wind drawn, seed " + seed, y.boat(0, 1), 10 + draw(next(one), 10));
            // where there was no squall, the next HOUR has the next DRAW
            long two = draw(next(one), 100);
            Check.due("the next hour, seed " + seed, x.chance(1), two < hundred ? 1 : 0);
        }
    }

    private static void undone() {
        Edge.of("The last 20 can be undone.");
        CelloBoats x = Check.with("sound 20;boat a at 0 tight 0 rosin 0;");
        for (int k = 1; k <= 21; k++) {
            x.tune(0, k);
            Check.due("acts " + k, x.has(9), Math.min(20, k));
        }
        for (int k = 20; k >= 1; k--) {
            Check.due("undo to " + k, x.undo(), true);
            Check.due("tight " + k, x.boat(0, 1), k);
            Check.due("acts left", x.has(9), k - 1);
        }
        Check.due("no more", x.undo(), false);
        Check.due("tight still", x.boat(0, 1), 1);
    }

    private static void kept() {
        Edge.of("KEPT is what comes in or goes down: HOUR, BOAT, 1 if it LANDED, 0 if it SANK; the last 40 are told.");
        CelloBoats x = Check.with("sound 20;boat a at 19 tight 0 rosin 0;boat b at 5 tight 0 rosin 0;score a 0;score b 0;"
            + "carry mile/10;swamp mile=5;");
        x.hours(1);
        int[][] due = {{0, 0, 1}, {0, 1, 0}};
        for (int k = 0; k < 2; k++) {
            for (int what = 0; what < 3; what++) {
                Check.due("kept(" + k + ", " + what + ")", x.kept(k, what), due[k][what]);
            }
        }
        for (int k = 3; k <= 41; k++) {
            x.raise(1);
            x.hours(1);
            Check.due("kept of " + k, x.has(7), Math.min(40, k));
        }
        Check.due("the oldest of 41", x.kept(0, 1), 1);
        Check.due("its hour", x.kept(0, 0), 0);
        Check.due("the newest of 41", x.kept(39, 0), 39);
        Check.due("no more than 40", x.kept(40, 0), -1);
        x.undo();
        Check.due("40 when it is undone", x.has(7), 40);
        Check.due("the oldest is back", x.kept(0, 2), 1);
        Check.due("the newest then", x.kept(39, 0), 38);
    }

    private static void draws() {
        Edge.of("A DRAW of m: x (the seed) becomes (1103515245 x + 12345) mod 2 to the 31; floor(x / 64) mod m.");
        CelloBoats x = Check.with("sound 20;boat a at 0 tight 0 rosin 0;score a 0;carry 0;slips 10+wind;squall 100;");
        for (int seed : new int[] {0, 1, 12345, 1073741824, 2147483646, 2147483647}) {
            x.seed(seed);
            long now = seed;
            for (int k = 0; k < 5; k++) {
                now = next(next(now));
                Check.due("squall", x.chance(1), 1);
                Check.due("wind " + k + " by seed " + seed, x.boat(0, 1), 10 + draw(now, 10));
            }
        }
    }
}
