/** Promises 21 to 24: RIDES, what is SEEN, which BOATS it was, what tells most. */
public final class RidersHeardTest {
    public static void main(String[] args) {
        rides();
        ridesOfLikeOnes();
        seen();
        heard();
        heardLate();
        tells();
        Check.finish();
    }

    private static void dueRides(String what, CelloBoats x, int most, int... row) {
        Check.due(what, x.rides(-1), most);
        for (int r = 0; r < row.length; r++) {
            Check.due(what + " rider " + r, x.rides(r), row[r]);
        }
        Check.due(what + " none such", x.rides(row.length), -1);
        Check.due(what + " rider -2", x.rides(-2), -1);
    }

    private static void rides() {
        Check.due("rides without a sound", new CelloBoats().rides(-1), -1);
        dueRides("no riders", Check.with("sound 9;boat a at 0 tight 0 rosin 0;score a 1;"), 0);
        dueRides("no boats", Check.with("sound 9;rider r key 1;"), 0, -1);
        CelloBoats x = Check.with("sound 9;boat a at 0 tight 0 rosin 0;boat b at 9 tight 0 rosin 0;boat c at 5 tight 0 rosin 0;"
            + "score a 1;score b 2;score c 3;score c 1;swamp mile=6;rider p key 1;rider q key 2;rider r key 3;");
        dueRides("one is landed", x, 2, 0, -1, 2);
        x.hours(1);
        dueRides("one is sunk", x, 1, 0, -1, -1);
        x.raise(2);
        x.note(0, 0, 5);
        dueRides("another note", x, 2, 2, -1, 2);
    }

    private static void ridesOfLikeOnes() {
        String boats = "sound 9;boat a at 0 tight 0 rosin 0;boat b at 0 tight 0 rosin 0;";
        dueRides("two at most, none ahead", Check.with(boats + "score a 1;rider p key 1;rider q key 1;rider r key 1;"),
            2, -1, 0, 0);
        dueRides("room is made", Check.with(boats + "score a 1;score b 1;score b 2;"
            + "rider p key 2;rider q key 1;rider r key 1;rider s key 1;rider t key 2;rider u key 1;"),
            4, -1, -1, 0, 0, 1, 1);
        dueRides("the first of two boats", Check.with(boats + "score a 1;score b 1;score a 2;"
            + "rider p key 1;rider q key 2;rider r key 2;rider s key 1;"), 4, 1, 0, 0, 1);
        dueRides("all ride on the first", Check.with(boats + "score a 1;score b 1;rider p key 1;rider q key 1;"), 2, 0, 0);
    }

    private static void seen() {
        CelloBoats x = new CelloBoats();
        Check.due("see without a sound", Check.see(x, 0, 0), -1);
        Check.due("the tape goes", x.feed(0, 0, 0, 0, 0), 20);
        x = Check.with("sound 9;boat a at 0 tight 0 rosin 0;score a 1;");
        Check.due("see nothing", Check.see(x), -1);
        Check.due("see", Check.see(x, 30, 8), 1);
        Check.due("has", x.has(8), 1);
        Check.due("see hour 31", Check.see(x, 0, 1, 31, 1), -1);
        Check.due("see note 9", Check.see(x, 0, 9), -1);
        Check.due("see high bytes", Check.see(x, 255, 255), -1);
        Check.due("see odd", Check.see(x, 0, 1, 1), -1);
        x.feed(0x00010001, 0, 0, 0, 0);
        x.end(3);
        Check.due("see odd, cut", x.see(), -1);
        Check.due("has stays", x.has(8), 1);
        Check.due("see 16", Check.see(x, new int[32]), 16);
        Check.due("see 17", Check.see(x, new int[34]), -1);
        Check.due("has 16", x.has(8), 16);
        Check.due("status 1", x.status(1), 7);
        Check.due("which", x.which(), 0);
        x.note(0, 0, 0);
        Check.due("which now", x.which(), 1);
        x.hours(1);
        x.undo();
        Check.due("seen stays", x.has(8), 16);
    }

    private static void heard() {
        CelloBoats x = Check.with("sound 9;boat a at 0 tight 0 rosin 0;boat b at 7 tight 0 rosin 0;boat c at 0 tight 0 rosin 0;"
            + "boat d at 3 tight 0 rosin 0;score a 1;score a 2;score b 1;score d 1;score d 3;swamp mile=5;");
        Check.due("all", x.which(), 15);
        Check.see(x, 0, 1);
        Check.due("note 1", x.which(), 11);
        Check.see(x, 0, 8);
        Check.due("not bowed", x.which(), 4);
        Check.see(x, 0, 1, 1, 2);
        Check.due("1 then 2", x.which(), 1);
        Check.see(x, 1, 2, 0, 1, 1, 2);
        Check.due("in any order", x.which(), 1);
        Check.see(x, 2, 8);
        Check.due("landed, without, sunk", x.which(), 14);
        Check.see(x, 30, 8, 1, 1);
        Check.due("landed", x.which(), 2);
        Check.see(x, 0, 1, 0, 2);
        Check.due("none", x.which(), 0);
        Check.due("tells none", x.tells(0), -1);
        Check.see(x, 0, 2);
        x.hours(1);
        Check.due("by what comes from now on", x.which(), 1);
    }

    private static void heardLate() {
        CelloBoats x = Check.with("sound 9;boat a at 0 tight 0 rosin 0;boat b at 0 tight 0 rosin 0;score a 1;carry 0;");
        Check.put(x, Check.image(3, 229, 0, 0, 0, 0, 0, 1, 0, 0, 0, 0, 0));
        Check.due("on at 997", x.on(), true);
        Check.see(x, 1, 8);
        Check.due("hour 998", x.which(), 2);
        Check.see(x, 2, 8);
        Check.due("no hour", x.which(), 0);
        Check.due("tells none left", x.tells(1), -1);
        Check.see(x, 1, 1);
        x.hours(2);
        Check.due("no hour any more", x.which(), 0);
        Check.due("hour 999", x.has(4), 999);
        CelloBoats y = Check.with("sound 9;boat a at 0 tight 0 rosin 0;");
        Check.due("tells an hour", y.tells(0), 0);
        Check.put(y, Check.image(3, 231, 0, 0, 0, 0, 0));
        Check.due("on at 999", y.on(), true);
        Check.due("all are left", y.which(), 1);
        Check.due("no hour tells", y.tells(0), -1);
        Check.due("no hour tells of one", y.tells(1), -1);
    }

    private static void tells() {
        Check.due("tells without a sound", new CelloBoats().tells(0), -1);
        Check.due("tells without boats", Check.with("sound 9;").tells(0), -1);
        CelloBoats x = Check.with("sound 60;boat a at 0 tight 0 rosin 0;boat b at 0 tight 0 rosin 0;boat c at 0 tight 0 rosin 0;"
            + "boat d at 0 tight 0 rosin 0;score a 1;score a 2;score a 3;score b 1;score b 2;score b 4;score c 1;score c 5;score c 3;"
            + "score d 1;score d 5;score d 5;");
        Check.due("tells hour", x.tells(0), 1);
        Check.due("tells left", x.tells(1), 2);
        Check.due("tells 2", x.tells(2), -1);
        Check.due("tells -1", x.tells(-1), -1);
        Check.see(x, 1, 2);
        Check.due("tells hour of those left", x.tells(0), 2);
        Check.due("one is left", x.tells(1), 1);
        Check.see(x, 1, 2, 2, 4);
        Check.due("of one boat the first hour", x.tells(0), 0);
        CelloBoats late = Check.with("sound 60;boat a at 29 tight 0 rosin 0;boat b at 28 tight 0 rosin 0;score a 1;score b 1;");
        Check.due("nothing tells: the first", late.tells(0), 0);
        Check.due("nothing tells: both are left", late.tells(1), 2);
        late = Check.with("sound 60;boat a at 30 tight 0 rosin 0;boat b at 28 tight 0 rosin 0;score a 1;score b 1;");
        Check.due("the hour 30 tells", late.tells(0), 30);
        Check.due("the hour 30 tells: one is left", late.tells(1), 1);
    }
}
