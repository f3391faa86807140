/** Promises 14 to 20: what comes, PLANS, STRUNG, BETTER scores. */
public final class AheadTest {
    private static final String FLEET = "sound 12;boat a at 0 tight 9 rosin 2;boat b at 6 tight 0 rosin 0;"
        + "boat c at 12 tight 0 rosin 0;boat d at 2 tight 4 rosin 1;score a 1;score a 3;score d 2;"
        + "carry note;slips tight-1;swamp mile=8 and tight<4;";

    public static void main(String[] args) {
        later();
        lands();
        cat();
        meets();
        lastHours();
        plan();
        planEdges();
        strung();
        better();
        sixBoats();
        Check.finish();
    }

    /** As many as there can be, each with as much as it can have. */
    private static void sixBoats() {
        StringBuilder text = new StringBuilder("sound 60;");
        for (char c = 'a'; c < 'g'; c++) {
            text.append("boat ").append(c).append(" at ").append(c - 'a').append(" tight 99 rosin 99;");
            text.append("rider r").append(c).append(" key ").append(c - 'a').append(";");
            for (int k = 0; k < 6; k++) {
                text.append("score ").append(c).append(" ").append((c - 'a' + k) % 8).append(";");
            }
        }
        CelloBoats x = Check.with(text + "swamp mile=23 and note=2;");
        Check.due("six boats", x.has(1), 6);
        Check.due("six riders", x.rides(-1), 6);
        Check.due("cat of six", x.cat(1), 5);
        Check.due("cat of six, number", x.cat(0), 17);
        Check.due("which of six", x.which(), 63);
        Check.due("tells of six", x.tells(1), 1);
        Check.due("image of six", x.image(), 69);
        Check.due("last byte of six", x.octet(69), -1);
        Check.due("hours of six", x.hours(60), 5);
        Check.due("kept of six", x.has(7), 6);
        Check.due("kept sunk", x.kept(0, 1), 5);
        Check.due("rides of six", x.rides(-1), 0);
        Check.due("the last of six", x.later(5, 0, 0), 23);
        Check.due("meets of six", x.meets(0, 4), 0);
        Check.due("undo of six", x.undo(), true);
        Check.due("the last of six undone", x.boat(5, 0), 5);
    }

    private static void later() {
        CelloBoats x = Check.with(FLEET);
        int[][] a = {{0, 9, 2, 0}, {1, 8, 1, 0}, {4, 7, 0, 0}, {5, 6, 0, 0}, {8, 5, 0, 0}, {9, 4, 0, 0}, {12, 3, 0, 0}};
        for (int n = 0; n < a.length; n++) {
            for (int what = 0; what < 4; what++) {
                Check.due("later 0 " + n + " " + what, x.later(0, n, what), a[n][what]);
            }
        }
        Check.due("later lands and stays", x.later(0, 60, 1), 3);
        Check.due("later without a score", x.later(1, 60, 0), 6);
        Check.due("later sunk", x.later(3, 60, 3), 1);
        Check.due("later sunk mile", x.later(3, 60, 0), 8);
        Check.due("later sunk slipped", x.later(3, 60, 1), 1);
        Check.due("later nothing is changed", x.has(4), 0);
        Check.due("later nothing is bowed", x.boat(0, 0), 0);
        Check.due("later n 61", x.later(0, 61, 0), -1);
        Check.due("later n -1", x.later(0, -1, 0), -1);
        Check.due("later what 4", x.later(0, 1, 4), -1);
        Check.due("later what -1", x.later(0, 1, -1), -1);
        Check.due("later boat 4", x.later(4, 1, 0), -1);
        Check.due("later boat -1", x.later(-1, 1, 0), -1);
    }

    private static void lands() {
        CelloBoats x = Check.with(FLEET);
        Check.due("lands a", x.lands(0), 6);
        Check.due("lands b", x.lands(1), -1);
        Check.due("lands c", x.lands(2), 0);
        Check.due("lands d", x.lands(3), -1);
        Check.due("lands 4", x.lands(4), -1);
        Check.due("lands -1", x.lands(-1), -1);
        CelloBoats sixty = Check.with("sound 60;boat a at 0 tight 0 rosin 0;score a 0;");
        Check.due("lands 60", sixty.lands(0), 60);
        CelloBoats more = Check.with("sound 60;boat a at 0 tight 0 rosin 0;score a 0;wolf 0 0;score a 1;");
        Check.due("lands 61", more.lands(0), -1);
    }

    private static void cat() {
        CelloBoats x = Check.with(FLEET);
        Check.due("cat number", x.cat(0), 2);
        Check.due("cat boat", x.cat(1), 3);
        Check.due("cat 2", x.cat(2), -1);
        Check.due("cat -1", x.cat(-1), -1);
        CelloBoats like = Check.with("sound 60;boat a at 9 tight 0 rosin 0;boat b at 10 tight 0 rosin 0;"
            + "boat c at 10 tight 0 rosin 0;score a 0;score b 0;score c 0;swamp mile=12;");
        Check.due("cat of like ones", like.cat(1), 1);
        Check.due("cat of like ones, number", like.cat(0), 1);
        like.hours(2);
        Check.due("cat of those not sunk", like.cat(1), 0);
        Check.due("cat of those not sunk, number", like.cat(0), 0);
        CelloBoats late = Check.with("sound 60;boat a at 0 tight 0 rosin 60;score a 0;carry 0;swamp rosin=1;");
        Check.due("cat 59", late.cat(0), 59);
        late.rosin(0, 1);
        Check.due("cat 60", late.cat(0), -1);
    }

    private static void meets() {
        CelloBoats x = Check.with(FLEET);
        Check.due("meets a c", x.meets(0, 2), 6);
        Check.due("meets a d", x.meets(0, 3), 4);
        Check.due("meets d a", x.meets(3, 0), 4);
        Check.due("meets b d", x.meets(1, 3), 2);
        Check.due("meets a b", x.meets(0, 1), -1);
        Check.due("meets a a", x.meets(0, 0), -1);
        Check.due("meets a 4", x.meets(0, 4), -1);
        Check.due("meets -1 a", x.meets(-1, 0), -1);
        CelloBoats now = Check.with("sound 60;boat a at 5 tight 0 rosin 0;boat b at 5 tight 0 rosin 0;"
            + "boat c at 0 tight 0 rosin 0;boat d at 60 tight 0 rosin 0;score c 0;");
        Check.due("meets now", now.meets(0, 1), 0);
        Check.due("meets behind 60", now.meets(2, 3), 60);
        Check.due("meets behind 5", now.meets(2, 1), 5);
    }

    /** AHEAD ends at HOUR 999. */
    private static void lastHours() {
        CelloBoats x = Check.with("sound 60;boat a at 10 tight 0 rosin 0;boat b at 14 tight 0 rosin 0;score a 0;score a 1;"
            + "carry 1-note;swamp mile=15;");
        for (int i = 0; i < 9; i++) {
            x.tune(0, i + 1);
            x.note(0, 0, 1);
            x.hours(100);
            x.note(0, 0, 0);
        }
        x.note(0, 0, 1);
        Check.due("hours 90", x.hours(90), 0);
        Check.due("hour 990", x.has(4), 990);
        x.note(0, 0, 0);
        Check.due("later 9", x.later(0, 9, 0), 15);
        Check.due("later 10", x.later(0, 10, 0), -1);
        Check.due("hours 10", x.hours(10), -1);
        Check.due("chance 10", x.chance(10), -1);
        Check.due("meets 7", x.meets(0, 1), 7);
        Check.due("cat 8", x.cat(0), 8);
        Check.due("strung 9", x.strung(0, 9, 0), -1);
        Check.due("hours 2", x.hours(2), 0);
        Check.due("meets 5", x.meets(0, 1), 5);
        x.note(0, 1, 0);
        x.hours(2);
        Check.due("meets 2, both notes", x.meets(0, 1), 1);
        Check.due("cat 1", x.cat(0), 1);
        x.hours(4);
        Check.due("hour 998", x.has(4), 998);
        Check.due("sunk", x.has(6), 1);
        Check.due("hours 1", x.hours(1), 0);
        Check.due("hour 999", x.has(4), 999);
        Check.due("later 0", x.later(0, 0, 0), 15);
        Check.due("later 1", x.later(0, 1, 0), -1);
        Check.due("cat none", x.cat(0), -1);
        Check.due("hours none", x.hours(1), -1);
        Check.due("chance none", x.chance(1), -1);
        Check.due("status 3", x.status(3), 4);
        x.undo();
        Check.due("hour 998 again", x.has(4), 998);
    }

    private static void dueRow(String what, CelloBoats x, int boat, int mile, int... row) {
        Check.due(what, x.plan(boat, mile, -1), row.length);
        for (int k = 0; k < row.length; k++) {
            Check.due(what + " note " + k, x.plan(boat, mile, k), row[k]);
        }
        Check.due(what + " behind it", x.plan(boat, mile, row.length), -1);
    }

    private static void plan() {
        CelloBoats x = Check.with("sound 40;boat a at 0 tight 0 rosin 3;boat b at 40 tight 0 rosin 0;"
            + "boat c at 4 tight 0 rosin 0;carry note+rosin;wolf 9 7;wolf 10 7;score b 0;");
        dueRow("plan here", x, 0, 0);
        dueRow("plan 3", x, 0, 3, 0);
        dueRow("plan 9", x, 0, 9, 6);
        dueRow("plan 10, cut at 9", x, 0, 10, 0, 5);
        dueRow("plan as far as it goes, not by the wolf", x, 0, 39, 5, 7, 7, 7, 7);
        Check.due("plan to the last", x.plan(0, 40, -1), -1);
        dueRow("plan landed here", x, 1, 40);
        Check.due("plan landed elsewhere", x.plan(1, 39, -1), -1);
        dueRow("plan whatever its score", x, 2, 6, 2);
        dueRow("plan 4 and 5 by 7", x, 2, 39, 7, 7, 7, 7, 7);
        Check.due("plan too far", x.plan(2, 40, -1), -1);
        Check.due("plan back", x.plan(2, 3, -1), -1);
        Check.due("plan mile 41", x.plan(0, 41, -1), -1);
        Check.due("plan mile -1", x.plan(0, -1, -1), -1);
        Check.due("plan boat 3", x.plan(3, 0, -1), -1);
        Check.due("plan boat -1", x.plan(-1, 0, -1), -1);
        Check.due("plan k -2", x.plan(0, 3, -2), -1);
        Check.due("plan nothing is changed", x.boat(0, 2), 3);
        CelloBoats cut = Check.with("sound 40;boat a at 36 tight 0 rosin 0;carry note*3-1;");
        dueRow("plan cut at the last", cut, 0, 40, 2);
        dueRow("plan back and on", cut, 0, 37, 0, 1);
        CelloBoats home = Check.with("sound 40;boat a at 1 tight 0 rosin 0;carry 5*max(0,1-mile)-min(mile,1);");
        dueRow("plan by mile 0", home, 0, 5, 0, 0);
        CelloBoats strings = Check.with("sound 40;boat a at 0 tight 0 rosin 0;slips note*64;"
            + "carry 1+5*max(0,1-(tight-64)*(tight-64));");
        dueRow("plan by being as tight as 64", strings, 0, 7, 1, 0);
        dueRow("plan by being so and no more", strings, 0, 8, 0, 1, 0);
    }

    private static void planEdges() {
        CelloBoats x = Check.with("sound 20;boat a at 3 tight 0 rosin 0;score a 3;carry note-3;"
            + "slips tight+note;swamp mile=5 or tight>6;wind 1;");
        Check.due("plan to where it sinks", x.plan(0, 5, -1), -1);
        dueRow("plan over where it sinks", x, 0, 6, 6);
        dueRow("plan back over the start", x, 0, 1, 1);
        dueRow("plan far, not sunk by being tight", x, 0, 10, 6, 7);
        Check.due("plan farther, sunk by being tight", x.plan(0, 11, -1), -1);
        x.tune(0, 99);
        x.hours(1);
        Check.due("sunk", x.boat(0, 3), 1);
        Check.due("plan sunk", x.plan(0, 3, -1), -1);
    }

    private static void strung() {
        CelloBoats x = Check.with("sound 20;boat a at 0 tight 50 rosin 0;boat b at 20 tight 0 rosin 0;"
            + "boat c at 0 tight 0 rosin 0;boat d at 18 tight 0 rosin 0;score a 0;score d 0;"
            + "carry min(tight/10,4);swamp tight>70;slips tight-5;");
        // 60 and more is 4 miles five times; above 70 it sinks
        Check.due("strung 30", x.strung(0, 30, 0), 60);
        Check.due("strung 30 hours", x.strung(0, 30, 1), 5);
        Check.due("strung 5", x.strung(0, 5, 0), 60);
        Check.due("strung 5 hours", x.strung(0, 5, 1), 5);
        Check.due("strung 4", x.strung(0, 4, 0), -1);
        Check.due("strung what 2", x.strung(0, 5, 2), -1);
        Check.due("strung what -1", x.strung(0, 5, -1), -1);
        Check.due("strung n 0", x.strung(0, 0, 0), -1);
        Check.due("strung n 31", x.strung(0, 31, 0), -1);
        Check.due("strung landed", x.strung(1, 5, 0), -1);
        Check.due("strung without a score", x.strung(2, 5, 0), -1);
        Check.due("strung near", x.strung(3, 1, 0), 20);
        Check.due("strung near hours", x.strung(3, 1, 1), 1);
        Check.due("strung boat 4", x.strung(4, 5, 0), -1);
        Check.due("strung nothing is changed", x.boat(0, 1), 50);
        CelloBoats most = Check.with("sound 20;boat a at 12 tight 50 rosin 0;score a 0;carry tight-91;");
        Check.due("strung 99", most.strung(0, 1, 0), 99);
        Check.due("strung as it is", Check.with("sound 20;boat a at 12 tight 8 rosin 0;score a 0;carry tight;").strung(0, 1, 0), 8);
    }

    private static void better() {
        CelloBoats x = Check.with("sound 20;boat a at 0 tight 0 rosin 0;boat b at 20 tight 0 rosin 0;"
            + "boat c at 0 tight 0 rosin 0;boat d at 19 tight 0 rosin 0;score a 2;score a 3;score b 0;score d 1;score d 0;"
            + "carry note;swamp note=7 and mile>6;");
        Check.due("better place", x.better(0, 30, 0), 0);
        Check.due("better note", x.better(0, 30, 1), 5);
        Check.due("better hours", x.better(0, 30, 2), 5);
        Check.due("better 5", x.better(0, 5, 1), 5);
        Check.due("better 4", x.better(0, 4, 0), -1);
        Check.due("better what 3", x.better(0, 30, 3), -1);
        Check.due("better what -1", x.better(0, 30, -1), -1);
        Check.due("better n 0", x.better(0, 0, 0), -1);
        Check.due("better n 31", x.better(0, 31, 0), -1);
        Check.due("better landed", x.better(1, 30, 0), -1);
        Check.due("better without a score", x.better(2, 30, 0), -1);
        Check.due("better not sooner", x.better(3, 30, 0), -1);
        Check.due("better boat 4", x.better(4, 30, 0), -1);
        Check.due("better nothing is changed", x.score(0, 0), 2);
        x.note(3, 0, 0);
        Check.due("better place of a new one", x.better(3, 30, 0), 0);
        Check.due("better least note", x.better(3, 30, 1), 1);
        Check.due("better hours of a new one", x.better(3, 30, 2), 1);
        CelloBoats least = Check.with("sound 20;boat a at 18 tight 0 rosin 0;score a 7;score a 7;carry 2-note/7;");
        Check.due("better place 0", least.better(0, 9, 0), 0);
        Check.due("better note 0", least.better(0, 9, 1), 0);
        CelloBoats second = Check.with("sound 20;boat a at 16 tight 0 rosin 0;score a 1;score a 1;carry note;wolf 16 7;wolf 16 3;wolf 16 4;"
            + "wolf 16 5;wolf 16 6;wolf 16 2;");
        Check.due("better place 1", second.better(0, 3, 0), 1);
        Check.due("better note 3", second.better(0, 3, 1), 3);
        Check.due("better behind 2", second.better(0, 3, 2), 2);
    }
}
