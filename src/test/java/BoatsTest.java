/** Promises 6 to 13 and 37: what there is, how far a NOTE carries, what is KEPT, refusals. */
public final class BoatsTest {
    public static void main(String[] args) {
        whatThereIs();
        names();
        carries();
        arithmetic();
        bows();
        kept();
        refusals();
        Check.finish();
    }

    private static void whatThereIs() {
        CelloBoats x = Check.with("sound 20;boat a at 20 tight 1 rosin 2;boat b at 19 tight 3 rosin 0;"
            + "boat c at 0 tight 0 rosin 99;score b 7;score b 0;score c 3;wolf 0 3;wolf 20 7;rider d key 6;");
        int[] has = {20, 3, 1, 2, 0, 1, 0, 0, 0, 0};
        for (int what = 0; what < has.length; what++) {
            Check.due("has " + what, x.has(what), has[what]);
        }
        Check.due("has -1", x.has(-1), -1);
        Check.due("has 10", x.has(10), -1);
        int[][] boats = {{20, 1, 2, 0, 1, 0, 0, -1}, {19, 3, 0, 0, 0, 2, 0, -1}, {0, 0, 99, 0, 0, 1, 0, -1}};
        for (int b = 0; b < 3; b++) {
            for (int what = 0; what < 8; what++) {
                Check.due("boat " + b + " " + what, x.boat(b, what), boats[b][what]);
            }
        }
        Check.due("boat what -1", x.boat(0, -1), -1);
        Check.due("boat -1", x.boat(-1, 0), -1);
        Check.due("boat 3", x.boat(3, 0), -1);
        Check.due("score", x.score(1, 0), 7);
        Check.due("score 1", x.score(1, 1), 0);
        Check.due("score 2", x.score(1, 2), -1);
        Check.due("score -1", x.score(1, -1), -1);
        Check.due("score of none", x.score(0, 0), -1);
        Check.due("score boat 3", x.score(3, 0), -1);
        Check.due("wolf", x.wolf(0, 3), 1);
        Check.due("wolf last", x.wolf(20, 7), 1);
        Check.due("wolf none", x.wolf(20, 6), 0);
        Check.due("wolf mile 21", x.wolf(21, 7), -1);
        Check.due("wolf mile -1", x.wolf(-1, 7), -1);
        Check.due("wolf note 8", x.wolf(0, 8), -1);
        Check.due("wolf note -1", x.wolf(0, -1), -1);
        Check.due("rider", x.rider(0), 6);
        Check.due("rider 1", x.rider(1), -1);
        Check.due("rider -1", x.rider(-1), -1);
        x.hours(1);
        Check.due("hour", x.has(4), 1);
        Check.due("landed", x.has(5), 2);
        Check.due("kept", x.has(7), 1);
        Check.due("acts", x.has(9), 1);
        Check.due("place goes on", x.boat(1, 6), 1);
    }

    private static void names() {
        CelloBoats x = Check.with("sound 9;boat azbycx at 0 tight 0 rosin 0;boat q at 0 tight 0 rosin 0;rider zz key 0;");
        int[] letters = {1, 26, 2, 25, 3, 24};
        for (int k = 0; k < 6; k++) {
            Check.due("letter " + k, x.letter(0, 0, k), letters[k]);
            Check.due("letter q " + k, x.letter(0, 1, k), k == 0 ? 17 : 0);
            Check.due("letter zz " + k, x.letter(1, 0, k), k < 2 ? 26 : 0);
        }
        Check.due("letter 6", x.letter(0, 0, 6), -1);
        Check.due("letter -1", x.letter(0, 0, -1), -1);
        Check.due("letter boat 2", x.letter(0, 2, 0), -1);
        Check.due("letter boat -1", x.letter(0, -1, 0), -1);
        Check.due("letter rider 1", x.letter(1, 1, 0), -1);
        Check.due("letter kind 2", x.letter(2, 0, 0), -1);
        Check.due("letter kind -1", x.letter(-1, 0, 0), -1);
    }

    private static void carries() {
        CelloBoats x = Check.with("sound 9;boat a at 0 tight 10 rosin 3;boat b at 9 tight 0 rosin 0;"
            + "carry note*4-tight-wind;wind 2;wolf 0 6;");
        int[] far = {-9, -8, -4, 0, 4, 8, 0, 9};
        for (int note = 0; note < 8; note++) {
            Check.due("carry " + note, x.carry(0, note), far[note]);
        }
        Check.due("carry of one that is landed", x.carry(1, 1), 2);
        Check.due("carry -1", x.carry(0, -1), CelloBoats.NOTHING);
        Check.due("carry 8", x.carry(0, 8), CelloBoats.NOTHING);
        Check.due("carry boat 2", x.carry(2, 0), CelloBoats.NOTHING);
        Check.due("carry boat -1", x.carry(-1, 0), CelloBoats.NOTHING);
        CelloBoats plain = Check.with("sound 9;boat a at 0 tight 10 rosin 3;wolf 0 1;");
        Check.due("carry is 1", plain.carry(0, 0), 1);
        Check.due("carry by a wolf", plain.carry(0, 1), 0);
    }

    private static void sum(String sum, long want) {
        CelloBoats x = Check.with("sound 9;boat a at 1 tight 7 rosin 3;carry " + sum + ";");
        Check.due("carry " + sum, x.carry(0, 2), want);
    }

    private static void arithmetic() {
        sum("2-3-4", -5);
        sum("2+3*2", 8);
        sum("(2+3)*2-3", 7);
        sum("8/2/2", 2);
        sum("9/2*2", 8);
        sum("7/2", 3);
        sum("(0-7)/2", -4);
        sum("7/(0-2)", -4);
        sum("(0-7)/(0-2)", 3);
        sum("7/0", 0);
        sum("(0-7)/0", 0);
        sum("min(3,0-4)", -4);
        sum("max(3,0-4)", 3);
        sum("min(tight,max(rosin,mile))", 3);
        sum("note", 2);
        sum("9999*9999/5000/100", 2);
        sum("(0-9999)*9999/5000/100", -2);
        sum("9999*9999*9999/2500/100", 4);
        sum("(9999*100+9999-9999*100)/20", 5);
        sum("(0-9999*100-9999+9999*100)/20", -5);
        sum("1000*1000+5-9999*100-95", 5);
        sum("0-1000*1000-5+9999*100+95", -5);
        sum("100", 9);
        sum("0-100", -9);
    }

    /** Where a BOAT is behind one BOW, how tight, rosin, SUNK. */
    private static void bow(String rest, int at, int[] want) {
        CelloBoats x = Check.with("sound 10;boat a at " + at + " tight 50 rosin 1;score a 3;" + rest);
        x.hours(1);
        for (int what = 0; what < 4; what++) {
            Check.due("bow by " + rest + " boat(0, " + what + ")", x.boat(0, what), want[what]);
        }
    }

    private static void bows() {
        bow("", 0, new int[] {1, 50, 0, 0});
        bow("carry note;", 8, new int[] {10, 50, 0, 0});
        bow("carry 0-5;", 2, new int[] {0, 50, 0, 0});
        bow("carry 100;", 0, new int[] {9, 50, 0, 0});
        bow("carry 5;wolf 2 3;", 2, new int[] {2, 50, 0, 0});
        bow("carry 5;wolf 2 4;", 2, new int[] {7, 50, 0, 0});
        bow("swamp all;", 9, new int[] {10, 50, 0, 0});
        bow("swamp all;", 8, new int[] {9, 50, 0, 1});
        // what swamp knows: the mile where it is then, how far it went, what is slipped and used up later
        bow("swamp mile=3 and went=1 and tight=50 and rosin=1 and note=3 and wind=4;wind 4;slips 9;", 2,
            new int[] {3, 9, 0, 1});
        bow("swamp went=0-2;carry 0-5;", 2, new int[] {0, 50, 0, 1});
        bow("swamp went=0;carry 5;wolf 2 3;", 2, new int[] {2, 50, 0, 1});
        bow("slips mile*10+rosin;carry 2;", 2, new int[] {4, 41, 0, 0});
        bow("slips 100;", 2, new int[] {3, 99, 0, 0});
        bow("slips 0-1;", 2, new int[] {3, 0, 0, 0});
        bow("slips tight-note-wind;wind 2;wind 5;", 2, new int[] {3, 42, 0, 0});
        bow("swamp not not 1=1 and[1=2 or all];", 2, new int[] {3, 50, 0, 1});
        bow("swamp 1=2 and 1=2 or all;", 2, new int[] {3, 50, 0, 1});
        bow("swamp all or all and 1=2;", 2, new int[] {3, 50, 0, 1});
        bow("swamp [all or all]and 1=2;", 2, new int[] {3, 50, 0, 0});
        bow("swamp not 1=1 or 1>1 or 1<1;", 2, new int[] {3, 50, 0, 0});
        bow("swamp not 1=2 and 1=2;", 2, new int[] {3, 50, 0, 0});
        bow("swamp 2>1 and 1<2 and 0-1<0;", 2, new int[] {3, 50, 0, 1});
    }

    private static void kept() {
        CelloBoats x = Check.with("sound 5;boat a at 3 tight 0 rosin 0;boat b at 0 tight 0 rosin 0;"
            + "boat c at 4 tight 0 rosin 0;score a 0;score b 0;score c 0;swamp mile<3 and mile>0;");
        Check.due("hours", x.hours(2), 2);
        int[][] due = {{0, 1, 0}, {0, 2, 1}, {1, 0, 1}};
        Check.due("kept", x.has(7), 3);
        for (int k = 0; k < 3; k++) {
            for (int what = 0; what < 3; what++) {
                Check.due("kept " + k + " " + what, x.kept(k, what), due[k][what]);
            }
        }
        Check.due("kept 3", x.kept(3, 0), -1);
        Check.due("kept -1", x.kept(-1, 0), -1);
        Check.due("kept what 3", x.kept(0, 3), -1);
        Check.due("kept what -1", x.kept(0, -1), -1);
        lastForty();
    }

    private static void lastForty() {
        CelloBoats x = Check.with("sound 5;boat a at 1 tight 0 rosin 0;score a 0;swamp all;carry 0;");
        for (int i = 0; i < 50; i++) {
            x.hours(1);
            x.raise(0);
            Check.due("kept so far", x.has(7), Math.min(40, i + 1));
        }
        Check.due("kept oldest", x.kept(0, 0), 10);
        Check.due("kept newest", x.kept(39, 0), 49);
        Check.due("kept 40", x.kept(40, 0), -1);
        for (int i = 0; i < 20; i++) {
            x.undo();
        }
        Check.due("kept undone", x.has(7), 40);
        Check.due("kept oldest undone", x.kept(0, 0), 0);
        Check.due("kept newest undone", x.kept(39, 0), 39);
        for (int i = 0; i < 100; i++) {
            x.raise(0);
            x.hours(1);
        }
        Check.due("kept oldest of many", x.kept(0, 0), 100);
        Check.due("kept newest of many", x.kept(39, 0), 139);
    }

    private static void refusals() {
        CelloBoats x = new CelloBoats();
        x.end(1);
        x.sound();
        x.see();
        x.tune(0, 0);
        x.rosin(0, 1);
        x.raise(0);
        x.note(0, 0, 0);
        x.hours(1);
        x.chance(1);
        x.undo();
        x.seed(-1);
        x.on();
        x.ask();
        int[] due = {1, 2, 4, 2, 1, 2};
        for (int what = 0; what < 6; what++) {
            Check.due("status " + what, x.status(what), due[what]);
        }
        Check.due("status 6", x.status(6), -1);
        Check.due("status -1", x.status(-1), -1);
        Check.put(x, "sound 5;");
        x.sound();
        Check.due("status stays", x.status(2), 4);
    }
}
