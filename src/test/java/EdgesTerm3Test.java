/** Term III: each boundary case of what is AHEAD, PLANS, STRUNG, BETTER, RIDES, SEEN, TELLING. */
public final class EdgesTerm3Test {
    private static final String WALK = "sound 60;boat a at 0 tight 7 rosin 0;boat b at 57 tight 7 rosin 0;score a 1;score b 2;swamp mile=59;";

    public static void main(String[] args) {
        Edge.section("III");
        ahead();
        aheadEnds();
        planLength();
        planRow();
        planBows();
        strung();
        better();
        riders();
        rides();
        seen();
        telling();
        Check.finish();
    }

    /** WALK's BOATS where they are at first, at an HOUR. */
    private static CelloBoats walkAt(int hour) {
        CelloBoats x = Check.with(WALK);
        Check.put(x, Check.image(hour / 256, hour % 256, 0, 7, 0, 0, 0, 1, 57, 7, 0, 0, 0, 2));
        Check.due("on", x.on(), true);
        return x;
    }

    private static void ahead() {
        Edge.of("AHEAD are HOURS as they come from now on without DRAWS (60 at most,");
        CelloBoats x = Check.with(WALK + "squall 100;wind 4;slips wind;");
        Check.due("later 60", x.later(0, 60, 0), 58 + 1);
        Check.due("later 61", x.later(0, 61, 0), -1);
        Check.due("the wind told", x.later(0, 1, 1), 4);
        x.seed(5);
        x.later(0, 60, 0);
        x.lands(0);
        x.cat(0);
        x.tells(0);
        x.chance(1);
        CelloBoats y = Check.with(WALK + "squall 100;wind 4;slips wind;");
        y.seed(5);
        y.chance(1);
        Check.due("no draw was made", x.boat(0, 1), y.boat(0, 1));
        CelloBoats far = Check.with("sound 60;boat a at 0 tight 0 rosin 0;boat b at 60 tight 0 rosin 0;score a 1;");
        Check.due("lands behind 60", far.lands(0), 60);
        Check.due("meets behind 60", far.meets(0, 1), 60);
        CelloBoats farther = Check.with("sound 60;boat a at 0 tight 0 rosin 1;boat b at 60 tight 0 rosin 0;score a 1;carry 1-rosin;");
        Check.due("does not land behind 61", farther.lands(0), -1);
        Check.due("does not meet behind 61", farther.meets(0, 1), -1);
        farther.hours(1);
        Check.due("lands an hour later", farther.lands(0), 60);
    }

    private static void aheadEnds() {
        Edge.of("not beyond HOUR 999; that of number k, 0 the next one, is one if HOUR + k + 1 is 999 at most).");
        Check.due("939, 60", walkAt(939).later(0, 60, 0), 59);
        Check.due("940, 60", walkAt(940).later(0, 60, 0), -1);
        Check.due("940, 59", walkAt(940).later(0, 59, 0), 59);
        Check.due("998, 1", walkAt(998).later(0, 1, 0), 1);
        Check.due("998, 2", walkAt(998).later(0, 2, 0), -1);
        Check.due("999, 0", walkAt(999).later(0, 0, 0), 0);
        Check.due("999, 1", walkAt(999).later(0, 1, 0), -1);
        // b sinks in the hour of number 1, behind two hours
        Check.due("997, cat", walkAt(997).cat(0), 1);
        Check.due("997, cat's boat", walkAt(997).cat(1), 1);
        Check.due("998, cat", walkAt(998).cat(0), -1);
        // the first hour beyond 999 is seen by none, not as silence
        for (int hour = 996; hour <= 999; hour++) {
            CelloBoats x = walkAt(hour);
            for (int k = 0; k < 4; k++) {
                Check.see(x, k, 1);
                Check.due(hour + " + " + k, x.which(), hour + k + 1 <= 999 ? 1 : 0);
            }
            for (int note = 0; note <= 8; note++) {
                Check.see(x, 1000 - hour - 1, note);
                Check.due(hour + ", the hour to 1000, note " + note, x.which(), 0);
            }
            Check.see(x, 2, 8);
            Check.due(hour + " b sunk", x.which(), hour + 3 <= 999 ? 2 : 0);
        }
        String near = "sound 60;boat a at 57 tight 0 rosin 0;boat b at 60 tight 0 rosin 0;score a 1;";
        for (int hour = 995; hour <= 999; hour++) {
            CelloBoats x = Check.with(near);
            Check.put(x, Check.image(3, hour - 768, 57, 0, 0, 0, 0, 1, 60, 0, 0, 0, 0));
            Check.due("on", x.on(), true);
            int due = hour + 3 <= 999 ? 3 : -1;
            Check.due(hour + " lands", x.lands(0), due);
            Check.due(hour + " meets", x.meets(0, 1), due);
            Check.due(hour + " strung 3", x.strung(0, 3, 1), due);
            Check.due(hour + " strung 4", x.strung(0, 4, 1), hour + 4 <= 999 ? 3 : -1);
            Check.due(hour + " hours 3", x.hours(3), hour + 3 <= 999 ? 1 : -1);
        }
    }

    private static void dueRow(String what, CelloBoats x, int mile, int... row) {
        Check.due(what, x.plan(0, mile, -1), row.length);
        for (int k = 0; k < row.length; k++) {
            Check.due(what + ", note " + k, x.plan(0, mile, k), row[k]);
        }
        Check.due(what + ", behind it", x.plan(0, mile, row.length), -1);
    }

    private static void planLength() {
        Edge.of("A PLAN for a BOAT is a row of NOTES (5 at most), bowed one after the other (whatever its score), by which it is at a mile,");
        CelloBoats x = Check.with("sound 60;boat a at 20 tight 0 rosin 0;score a 0;carry note-3;");
        dueRow("here", x, 20);
        dueRow("one", x, 24, 7);
        dueRow("one back", x, 17, 0);
        dueRow("five", x, 40, 7, 7, 7, 7, 7);
        dueRow("not six, but the fewest", x, 36, 7, 7, 7, 7);
        Check.due("six", x.plan(0, 41, -1), -1);
        dueRow("five back", x, 5, 0, 0, 0, 0, 0);
        Check.due("six back", x.plan(0, 4, -1), -1);
        CelloBoats y = Check.with("sound 60;boat a at 20 tight 0 rosin 0;carry 9;");
        dueRow("without a score", y, 29, 0);
        CelloBoats z = Check.with("sound 60;boat a at 0 tight 0 rosin 0;carry 9;");
        dueRow("nine miles five times", z, 45, 0, 0, 0, 0, 0);
        Check.due("no more than that", z.plan(0, 46, -1), -1);
        CelloBoats back = Check.with("sound 60;boat a at 45 tight 0 rosin 0;carry 0-9;");
        dueRow("nine miles back five times", back, 0, 0, 0, 0, 0, 0);
        CelloBoats all = Check.with("sound 60;boat a at 52 tight 0 rosin 0;carry 0-9;");
        Check.due("no more than that back", all.plan(0, 0, -1), -1);
        Check.due("no more than that back, k", all.plan(0, 0, 0), -1);
        // a row of NOTES, not of HOURS: it may be longer than the HOURS that still come
        for (int hour = 997; hour <= 999; hour++) {
            CelloBoats late = Check.with("sound 60;boat a at 20 tight 0 rosin 0;score a 0;carry note-3;");
            for (int left = hour; left > 0; left -= Math.min(100, left)) {
                late.hours(Math.min(100, left));
            }
            late.tune(0, 1);
            Check.due("hour", late.has(4), hour);
            Check.due("at mile 0", late.boat(0, 0), 0);
            dueRow("at hour " + hour, late, 20, 7, 7, 7, 7, 7);
        }
    }

    private static void planRow() {
        Edge.of("not SUNK: the fewest, of like ones the first row.");
        CelloBoats x = Check.with("sound 60;boat a at 20 tight 0 rosin 0;score a 0;carry note;swamp mile=25 or mile=29;");
        Check.due("where it sinks", x.plan(0, 25, -1), -1);
        dueRow("the fewest", x, 26, 6);
        dueRow("the first row", x, 30, 3, 7);
        dueRow("the first row not over where it sinks", x, 28, 1, 7);
        dueRow("the first row not by 29", x, 36, 3, 7, 6);
        CelloBoats y = Check.with("sound 60;boat a at 20 tight 0 rosin 0;score a 0;carry note/2;");
        dueRow("of like notes the first", y, 23, 6);
        dueRow("of like rows the first", y, 25, 4, 6);
        CelloBoats z = Check.with("sound 60;boat a at 20 tight 0 rosin 0;carry 1;swamp note<7 and mile>20;");
        dueRow("the last note alone", z, 23, 7, 7, 7);
    }

    private static void planBows() {
        Edge.of("bowed one after the other (whatever its score), by which it is at a mile,");
        // from 18 on two miles, and back from 20: there it is LANDED, and is bowed no more
        CelloBoats x = Check.with("sound 20;boat a at 18 tight 0 rosin 0;"
            + "carry 2*max(0,1-(mile-18)*(mile-18))-max(0,1-(mile-20)*(mile-20));");
        dueRow("lands", x, 20, 0);
        Check.due("not back from there", x.plan(0, 19, -1), -1);
        CelloBoats rosin = Check.with("sound 60;boat a at 0 tight 0 rosin 2;carry rosin;");
        dueRow("two by rosin", rosin, 2, 0);
        dueRow("three by rosin", rosin, 3, 0, 0);
        Check.due("no more rosin", rosin.plan(0, 4, -1), -1);
        CelloBoats tight = Check.with("sound 60;boat a at 0 tight 1 rosin 0;slips tight+note;carry tight;");
        dueRow("one by strings", tight, 1, 0);
        dueRow("nine by strings", tight, 9, 7, 0);
        dueRow("ten by strings", tight, 10, 0, 7, 0);
        CelloBoats dry = Check.with("sound 60;boat a at 0 tight 0 rosin 0;carry 1+rosin;");
        dueRow("rosin is not below 0", dry, 5, 0, 0, 0, 0, 0);
        CelloBoats wind = Check.with("sound 60;boat a at 0 tight 1 rosin 0;carry wind;wind 6;squall 100;");
        dueRow("the wind told", wind, 6, 0);
        CelloBoats wolf = Check.with("sound 60;boat a at 0 tight 1 rosin 0;carry note;wolf 0 7;");
        dueRow("not by a wolf", wolf, 7, 1, 6);
        planBySeveralWays();
        CelloBoats cut = Check.with("sound 20;boat a at 15 tight 1 rosin 0;carry note*9-40;");
        dueRow("cut at the last", cut, 20, 5);
        dueRow("cut at mile 0", cut, 0, 0, 0);
    }

    /** Rows that lead to one mile, but not to one tightness, or to none that is alike, are all followed. */
    private static void planBySeveralWays() {
        int[][] pairs = {{0, 63}, {0, 64}, {1, 65}, {64, 65}, {63, 64}, {35, 99}, {0, 1}, {98, 99}};
        for (int[] pair : pairs) {
            // by 0 it is as tight as the first, else as the second; only then it goes on by 5, if it is that tight
            String text = "boat a at 0 tight 50 rosin 0;slips " + pair[0] + "+" + (pair[1] - pair[0]) + "*min(1,note);"
                + "carry 1+4*max(0,1-(tight-" + pair[1] + ")*(tight-" + pair[1] + "));";
            dueRow("as tight as " + pair[1] + ", not " + pair[0], Check.with("sound 60;" + text), 6, 1, 0);
            dueRow("twice so", Check.with("sound 60;" + text), 11, 1, 1, 0);
        }
        // one at a mile and tight, one a mile on and slack: by 0 it goes 1 and no farther, by others note + 1
        CelloBoats near = Check.with("sound 60;boat a at 0 tight 0 rosin 0;slips 64*max(0,1-note);carry (note+1)*max(0,1-tight);");
        dueRow("tight and slack side by side", near, 10, 1, 7);
        CelloBoats stays = Check.with("sound 60;boat a at 0 tight 0 rosin 0;slips note*64;carry 5*max(0,1-(tight-64)*(tight-64));");
        dueRow("tight at mile 0", stays, 5, 1, 0);
        CelloBoats home = Check.with("sound 60;boat a at 1 tight 0 rosin 0;carry 5*max(0,1-mile)-min(mile,1);");
        dueRow("by mile 0", home, 5, 0, 0);
        CelloBoats far = Check.with("sound 60;boat a at 45 tight 99 rosin 0;carry note;");
        dueRow("far out", far, 59, 7, 7);
        dueRow("to the last", far, 60, 1, 7, 7);
    }

    private static void strung() {
        Edge.of("so that it LANDS soonest in n HOURS AHEAD; of like ones the least.");
        CelloBoats x = Check.with("sound 20;boat a at 0 tight 3 rosin 0;score a 0;carry min(tight,5);");
        Check.due("the least of like ones", x.strung(0, 30, 0), 5);
        Check.due("the soonest", x.strung(0, 30, 1), 4);
        Check.due("in as many as it needs", x.strung(0, 4, 0), 5);
        Check.due("not in fewer", x.strung(0, 3, 0), -1);
        CelloBoats none = Check.with("sound 20;boat a at 19 tight 3 rosin 0;score a 0;");
        Check.due("0", none.strung(0, 1, 0), 0);
        CelloBoats all = Check.with("sound 20;boat a at 19 tight 3 rosin 0;score a 0;carry tight-98;");
        Check.due("99", all.strung(0, 1, 0), 99);
        Check.due("99, behind 1", all.strung(0, 1, 1), 1);
        CelloBoats beyond = Check.with("sound 20;boat a at 19 tight 3 rosin 0;score a 0;carry tight-99;");
        Check.due("not 100", beyond.strung(0, 1, 0), -1);
        CelloBoats below = Check.with("sound 20;boat a at 19 tight 3 rosin 0;score a 0;carry 0-tight;");
        Check.due("not -1", below.strung(0, 1, 0), -1);
        CelloBoats as = Check.with("sound 20;boat a at 15 tight 5 rosin 0;score a 0;carry max(0,1-(tight-5)*(tight-5))*9;");
        Check.due("as it is", as.strung(0, 30, 0), 5);
        CelloBoats thirty = Check.with("sound 60;boat a at 30 tight 0 rosin 0;score a 0;");
        Check.due("behind 30", thirty.strung(0, 30, 1), 30);
        Check.due("not behind 29", thirty.strung(0, 29, 1), -1);
    }

    private static void better() {
        Edge.of("A BETTER score has one other NOTE (0 .. 7, at a place that it has),");
        CelloBoats x = Check.with("sound 20;boat a at 13 tight 0 rosin 0;score a 0;carry note;");
        Check.due("note 7", x.better(0, 1, 1), 7);
        CelloBoats zero = Check.with("sound 20;boat a at 13 tight 0 rosin 0;score a 7;carry 7-note;");
        Check.due("note 0", zero.better(0, 1, 1), 0);
        // only behind five hours a note carries at all
        CelloBoats six = Check.with("sound 60;boat a at 53 tight 0 rosin 0;score a 0;score a 0;score a 0;score a 0;score a 0;score a 0;"
            + "carry note*max(0,tight-4);slips tight+1;");
        Check.due("the sixth place", six.better(0, 6, 0), 5);
        Check.due("the sixth place, note", six.better(0, 6, 1), 7);
        Check.due("the sixth place, hours", six.better(0, 6, 2), 6);
        Check.due("not the sixth of five hours", six.better(0, 5, 0), -1);
        // the same, but by the NOTE 0
        String scores = "score a 1;score a 2;score a 3;score a 4;score a 5;score a 6;";
        for (int place = 0; place < 6; place++) {
            CelloBoats least = Check.with("sound 60;boat a at 53 tight 0 rosin 0;" + scores
                + "slips tight+1;carry 7*max(0,1-note)*max(0,1-(tight-" + place + ")*(tight-" + place + "));");
            Check.due("note 0, place", least.better(0, 30, 0), place);
            Check.due("note 0", least.better(0, 30, 1), 0);
            Check.due("note 0, hours", least.better(0, 30, 2), place + 1);
        }
        Check.due("without a score", Check.with("sound 9;boat a at 8 tight 0 rosin 0;").better(0, 1, 0), -1);

        Edge.of("by which, changed now, it LANDS soonest in n HOURS AHEAD, if sooner than without;");
        CelloBoats y = Check.with("sound 20;boat a at 0 tight 0 rosin 0;score a 5;carry note;");
        Check.due("soonest", y.better(0, 30, 2), 3);
        Check.due("the note for it", y.better(0, 30, 1), 7);
        Check.due("in as many as it needs", y.better(0, 3, 1), 7);
        Check.due("not in fewer", y.better(0, 2, 1), -1);
        y.note(0, 0, 6);
        Check.due("sooner than without", y.better(0, 30, 1), 7);
        y.note(0, 0, 7);
        Check.due("not sooner", y.better(0, 30, 1), -1);
        CelloBoats never = Check.with("sound 20;boat a at 0 tight 0 rosin 0;score a 0;carry note;");
        Check.due("without it never lands", never.better(0, 30, 2), 3);
        CelloBoats thirty = Check.with("sound 60;boat a at 30 tight 0 rosin 0;score a 0;carry min(1,note);");
        Check.due("behind 30", thirty.better(0, 30, 2), 30);
        Check.due("behind 30, note", thirty.better(0, 30, 1), 1);
        Check.due("not behind 29", thirty.better(0, 29, 2), -1);

        Edge.of("of like ones the first place, then the least NOTE.");
        CelloBoats z = Check.with("sound 20;boat a at 14 tight 0 rosin 0;score a 1;score a 1;carry note;");
        Check.due("the first place", z.better(0, 30, 0), 0);
        Check.due("the least note at it", z.better(0, 30, 1), 6);
        CelloBoats late = Check.with("sound 20;boat a at 14 tight 0 rosin 0;score a 1;score a 1;carry note;wolf 14 6;wolf 14 5;wolf 14 7;");
        Check.due("a later place", late.better(0, 30, 0), 1);
        Check.due("the least note there", late.better(0, 30, 1), 5);
        Check.due("behind", late.better(0, 30, 2), 2);
    }

    private static void riders() {
        Edge.of("A RIDER can ride on a BOAT that is neither LANDED nor SUNK, the score of which has his key;");
        CelloBoats x = Check.with("sound 20;boat a at 20 tight 0 rosin 0;boat b at 3 tight 0 rosin 0;boat c at 19 tight 0 rosin 0;"
            + "score a 1;score b 1;score c 2;score c 5;score c 1;rider r key 1;rider s key 5;swamp mile=4;");
        Check.due("two ride", x.rides(-1), 2);
        Check.due("not on one that is landed", x.rides(0), 1);
        Check.due("a key inside a score", x.rides(1), 2);
        x.hours(1);
        Check.due("sunk and landed", x.rides(-1), 0);
        Check.due("sunk and landed, r", x.rides(0), -1);
        x.raise(1);
        Check.due("raised", x.rides(-1), 1);
        Check.due("raised, r", x.rides(0), 1);
        Check.due("raised, s", x.rides(1), -1);
        x.note(1, 0, 5);
        Check.due("another key, r", x.rides(0), -1);
        Check.due("another key, s", x.rides(1), 1);
        CelloBoats none = Check.with("sound 20;boat a at 0 tight 0 rosin 0;rider r key 0;");
        Check.due("a score without notes has no key 0", none.rides(-1), 0);

        Edge.of("two at most ride on one.");
        for (int many = 1; many <= 6; many++) {
            StringBuilder text = new StringBuilder("sound 20;boat a at 0 tight 0 rosin 0;score a 3;");
            for (int r = 0; r < many; r++) {
                text.append("rider r").append((char) ('a' + r)).append(" key 3;");
            }
            Check.due("of " + many, Check.with(text.toString()).rides(-1), Math.min(2, many));
        }
    }

    private static void dueRides(String what, CelloBoats x, int most, int... row) {
        Check.due(what, x.rides(-1), most);
        for (int r = 0; r < row.length; r++) {
            Check.due(what + ", rider " + r, x.rides(r), row[r]);
        }
    }

    private static void rides() {
        Edge.of("RIDES are such that most ride; of like ones the first row (RIDER by RIDER the BOAT, none ahead of these).");
        String boats = "sound 20;boat a at 0 tight 0 rosin 0;boat b at 0 tight 0 rosin 0;boat c at 0 tight 0 rosin 0;";
        dueRides("none ahead", Check.with(boats + "score a 1;rider p key 1;rider q key 1;rider r key 1;"), 2, -1, 0, 0);
        dueRides("the first boat", Check.with(boats + "score a 1;score b 1;score c 1;rider p key 1;rider q key 1;rider r key 1;"),
            3, 0, 0, 1);
        dueRides("most ride", Check.with(boats + "score a 1;score b 1;score a 2;rider p key 1;rider q key 1;rider r key 2;rider s key 2;"),
            4, 1, 1, 0, 0);
        dueRides("one by one", Check.with(boats + "score a 1;score a 2;score b 2;score b 3;score c 3;"
            + "rider p key 1;rider q key 2;rider r key 2;rider s key 3;rider t key 3;rider u key 3;"), 6, 0, 0, 1, 1, 2, 2);
        CelloBoats fewer = Check.with(boats + "score a 1;rider p key 1;rider q key 1;");
        Check.due("two", fewer.rides(-1), 2);
        Check.put(fewer, boats + "score a 1;rider p key 1;");
        fewer.sound();
        Check.due("one, behind another sound", fewer.rides(-1), 1);
        Check.put(fewer, boats + "score a 1;");
        fewer.sound();
        Check.due("none, behind another sound", fewer.rides(-1), 0);
        dueRides("a key of none", Check.with(boats + "score a 1;rider p key 7;rider q key 1;"), 1, -1, 0);
        dueRides("six on three", Check.with(boats + "score a 1;score b 1;score c 1;rider p key 1;rider q key 1;rider r key 1;"
            + "rider s key 1;rider t key 1;rider u key 1;"), 6, 0, 0, 1, 1, 2, 2);
        dueRides("four on two of six", Check.with(boats + "score b 1;score c 1;rider p key 1;rider q key 1;rider r key 1;"
            + "rider s key 1;rider t key 1;rider u key 1;"), 4, -1, -1, 1, 1, 2, 2);
    }

    private static void seen() {
        Edge.of("SEEN are rows of HOURS AHEAD by number (0 .. 30), a NOTE (0 .. 7; 8: it is not bowed): BOATS by which all is so.");
        CelloBoats x = Check.with("sound 60;boat a at 0 tight 0 rosin 0;boat b at 29 tight 0 rosin 0;boat c at 28 tight 0 rosin 0;"
            + "score a 0;score b 7;score c 7;carry 1;");
        // b and c land behind 31 and 32 hours
        Check.due("hour 0, note 0", Check.see(x, 0, 0), 1);
        Check.due("a", x.which(), 1);
        Check.due("hour 30, note 7", Check.see(x, 30, 7), 1);
        Check.due("b and c", x.which(), 6);
        x.hours(1);
        Check.due("c", x.which(), 4);
        Check.due("hour 30, not bowed", Check.see(x, 30, 8), 1);
        Check.due("b", x.which(), 2);
        Check.due("hour 31", Check.see(x, 31, 7), -1);
        Check.due("note 9", Check.see(x, 30, 9), -1);
        Check.due("all rows", Check.see(x, 0, 7, 29, 7, 30, 7), 3);
        Check.due("c by all", x.which(), 4);
        Check.due("all rows but one", Check.see(x, 0, 7, 29, 6, 30, 7), 3);
        Check.due("none by all", x.which(), 0);
    }

    private static void telling() {
        Edge.of("TELLING is the HOUR AHEAD (0 .. 30) by whose NOTE, whichever it is, or none, the most of these BOATS left are fewest; "
            + "of like ones the first.");
        String boats = "sound 60;boat a at 0 tight 0 rosin 0;boat b at 0 tight 0 rosin 0;boat c at 0 tight 0 rosin 0;boat d at 0 tight 0 rosin 0;";
        CelloBoats x = Check.with(boats + "score a 1;score a 2;score a 3;score b 1;score b 2;score b 4;score c 1;score c 2;score c 5;");
        Check.due("three and none, then all apart", x.tells(0), 2);
        Check.due("one left", x.tells(1), 1);
        CelloBoats like = Check.with(boats + "score a 1;score a 1;score b 1;score b 2;score c 2;score c 1;score d 2;score d 2;");
        Check.due("two and two: the first", like.tells(0), 0);
        Check.due("two left", like.tells(1), 2);
        CelloBoats silent = Check.with(boats + "score a 1;");
        Check.due("none is a sound of its own", silent.tells(1), 3);
        CelloBoats zero = Check.with(boats + "score a 0;score b 0;score c 0;score d 1;");
        Check.due("three by 0", zero.tells(1), 3);
        CelloBoats edge = Check.with("sound 60;boat a at 30 tight 0 rosin 0;boat b at 0 tight 0 rosin 0;score a 1;score b 1;");
        Check.due("hour 30", edge.tells(0), 30);
        Check.due("hour 30, one", edge.tells(1), 1);
        CelloBoats late = Check.with("sound 60;boat a at 29 tight 0 rosin 0;boat b at 0 tight 0 rosin 0;score a 1;score b 1;");
        Check.due("not hour 31", late.tells(0), 0);
        Check.due("not hour 31, two", late.tells(1), 2);
        CelloBoats these = Check.with(boats + "score a 1;score a 2;score b 1;score b 3;score c 4;score c 3;score d 5;score d 3;");
        Check.due("of all", these.tells(0), 0);
        Check.due("of all, left", these.tells(1), 2);
        Check.see(these, 0, 1);
        Check.due("of those left", these.tells(0), 1);
        Check.due("of those left, one", these.tells(1), 1);
    }
}
