/** Promises 1 to 13: each boundary case that they name. */
public final class EdgesPromises1Test {
    /** What is no number of anything. */
    private static final int[] WILD = {-1, -2, Integer.MIN_VALUE, Integer.MAX_VALUE, 1 << 30, -(1 << 28)};
    private static final String TWO = "sound 9;boat abcdef at 9 tight 4 rosin 5;boat b at 1 tight 6 rosin 7;score b 3;score b 0;"
        + "rider uvwxyz key 3;rider r key 7;wolf 0 0;wolf 9 7;";

    public static void main(String[] args) {
        newObject();
        feed();
        end();
        soundFaults();
        soundAnew();
        fault();
        has();
        letter();
        boat();
        score();
        carry();
        wolf();
        rider();
        kept();
        Check.finish();
    }

    private static void newObject() {
        Edge.section("1");
        Edge.of("No sound, no boats.");
        CelloBoats x = new CelloBoats();
        for (int what = 0; what < 10; what++) {
            Check.due("has(" + what + ")", x.has(what), 0);
        }
        for (int boat = 0; boat < 7; boat++) {
            Check.due("boat", x.boat(boat, 0), -1);
            Check.due("letter", x.letter(0, boat, 0), -1);
            Check.due("rider", x.rider(boat), -1);
            Check.due("carry", x.carry(boat, 0), CelloBoats.NOTHING);
            Check.due("later", x.later(boat, 0, 0), -1);
            Check.due("lands", x.lands(boat), -1);
            Check.due("tune", x.tune(boat, 1), false);
        }
        Check.due("wolf", x.wolf(0, 0), -1);
        Check.due("which", x.which(), 0);
        Check.due("image", x.image(), 3);
        for (int what = 0; what < 6; what++) {
            Check.due("status(" + what + ")", x.status(what), what == 2 ? 7 : 0);
        }
    }

    private static void feed() {
        Edge.section("2");
        Edge.of("Twenty bytes come behind those on the tape, of each number the highest first: how many there are;");
        CelloBoats x = new CelloBoats();
        // "sound 9;", then "wolf 1 2" and blanks, over two calls
        Check.due("20", x.feed(0x736f756e, 0x64202020, 0x20202020, 0x20202020, 0x20393b77), 20);
        Check.due("40", x.feed(0x6f6c6620, 0x3120323b, 0x20202020, 0x20202020, 0x20202020), 40);
        Check.due("sound", x.sound(), 2);
        Check.due("wolf", x.wolf(1, 2), 1);
        x.feed(0x736f756e, 0x6420393b, 0x800080ff, 0, 0);
        x.sound();
        Check.due("a high byte is no blank", x.fault(1), 8);

        Edge.of("NONE, refused (0), if there would be more than 1600.");
        CelloBoats y = new CelloBoats();
        for (int k = 1; k <= 79; k++) {
            y.feed(0, 0, 0, 0, 0);
        }
        Check.due("1600", y.feed(0, 0, 0, 0, 0), 1600);
        Check.due("1620", y.feed(0, 0, 0, 0, 0), -1);
        Check.due("refused", y.status(0), 1);
        Check.due("1600 are there", y.end(1600), true);
        y.end(1581);
        Check.due("1601", y.feed(0, 0, 0, 0, 0), -1);
        Check.due("refused again", y.status(0), 2);
        y.end(1580);
        Check.due("1600 again", y.feed(0, 0, 0, 0, 0), 1600);
        // what was refused left nothing behind
        CelloBoats z = new CelloBoats();
        Check.put(z, "sound 9;" + " ".repeat(1592));
        Check.due("refused behind a full tape", z.feed(-1, -1, -1, -1, -1), -1);
        Check.due("a full tape", z.sound(), 1);
        String boat = "sound 9;boat a at 0 tight 0 rosin 0;carry 5";
        String rest = "+1-1".repeat((1599 - boat.length()) / 4);
        String blanks = " ".repeat(1599 - boat.length() - rest.length());
        for (int k = 0; k < 3; k++) {
            Check.put(z, boat + rest + blanks + ";");
            Check.due("a full tape of one sum", z.sound(), 3);
            Check.due("that sum", z.carry(0, 0), 5);
        }
        Check.asked(z, "total 1" + "+1".repeat(796) + " ", 797);
        Check.asked(z, "often all" + " and all".repeat(198) + "       ", 1);
    }

    private static void end() {
        Edge.section("3");
        Edge.of("The tape has its first n bytes alone: true;");
        CelloBoats x = new CelloBoats();
        x.feed(0x736f756e, 0x6420393b, 0x78787878, 0x78787878, 0x78787878);
        Check.due("20", x.end(20), true);
        Check.due("8", x.end(8), true);
        Check.due("not 9 any more", x.end(9), false);
        Check.due("sound", x.sound(), 1);
        // what stood behind does not go on: "total 12" and "often allx" cut, "sound 12345" cut ahead of its 5th digit
        x.feed(0x746f7461, 0x6c203132, 0x33343536, 0, 0);
        x.end(7);
        Check.due("a number is cut", x.ask(), 0);
        Check.due("a number is cut, no fault", x.fault(0), 0);
        x.feed(0x6f667465, 0x6e20616c, 0x6c787878, 0x78787878, 0x78787878);
        x.end(9);
        Check.due("a word is cut", x.ask(), 0);
        Check.due("a word is cut, no fault", x.fault(0), 0);
        x.feed(0x736f756e, 0x64203132, 0x33343500, 0, 0);
        x.end(8);
        Check.due("ends too soon", x.sound(), -1);
        Check.due("ends too soon, place", x.fault(1), 8);
        Check.due("0", x.end(0), true);
        x.feed(0, 0, 0, 0, 0);
        Check.due("0 of 20", x.end(0), true);
        Check.due("20 behind 0", x.feed(0, 0, 0, 0, 0), 20);

        Edge.of("false, refused (0), if it has not so many, or n is below 0.");
        Check.due("21", x.end(21), false);
        Check.due("-1", x.end(-1), false);
        Check.due("the least", x.end(Integer.MIN_VALUE), false);
        Check.due("the greatest", x.end(Integer.MAX_VALUE), false);
        Check.due("refused", x.status(0), 5);
        Check.due("20 are there still", x.end(20), true);
        Check.due("no byte of a new one", new CelloBoats().end(1), false);
    }

    private static void soundFaults() {
        Edge.section("4");
        Edge.of("The tape (it goes) is THE SOUND: how many STATEMENTS;");
        Check.due("1", sound(new CelloBoats(), "sound 9;"), 1);
        Check.due("80", sound(new CelloBoats(), "sound 9;" + "wind 1;".repeat(79)), 80);
        CelloBoats x = new CelloBoats();
        sound(x, "sound 9;");
        Check.due("it went", x.feed(0, 0, 0, 0, 0), 20);
        x.sound();
        Check.due("it went with a fault", x.feed(0, 0, 0, 0, 0), 20);

        Edge.of("NONE, refused (1), with a FAULT (all stays; one without a STATEMENT has FAULT 1 at its length).");
        CelloBoats y = Check.with(TWO);
        y.hours(2);
        Check.see(y, 0, 1);
        y.image();
        for (String wrong : new String[] {"", "\n", "sound 10;boat", "sound 10;rider q key 1;carry 5;swamp all;wolf 1 1;wind 9;x", "x"}) {
            int refused = y.status(1);
            Check.due("sound", sound(y, wrong), -1);
            Check.due("refused", y.status(1), refused + 1);
            int[] due = {9, 2, 2, 2, 2, 1, 0, 0, 1, 1};
            for (int what = 0; what < 10; what++) {
                Check.due("has(" + what + ") stays", y.has(what), due[what]);
            }
            Check.due("letter stays", y.letter(0, 1, 0), 2);
            Check.due("mile stays", y.boat(1, 0), 3);
            Check.due("carry stays", y.carry(1, 0), 1);
            Check.due("wolf stays", y.wolf(1, 1), 0);
            Check.due("key stays", y.rider(0), 3);
            Check.due("image stays", y.octet(1), 2);
        }
        y.hours(1);
        Check.due("swamp stays", y.boat(1, 3), 0);
        for (String without : new String[] {"", " ", "\n  \n"}) {
            Check.soundFault(without, 1, without.length());
        }
        Check.soundFault(" ".repeat(1600), 1, 1600);
    }

    private static int sound(CelloBoats x, String text) {
        Check.put(x, text);
        return x.sound();
    }

    private static void soundAnew() {
        Edge.of("Without one all is as at first, nothing is KEPT, SEEN or can be undone; the seed stays.");
        String text = "sound 9;boat a at 8 tight 1 rosin 5;boat b at 1 tight 1 rosin 5;score a 1;score a 2;score b 3;"
            + "slips 10+wind;swamp mile=2;squall 100;";
        CelloBoats x = Check.with(text);
        x.seed(99);
        x.note(0, 1, 6);
        x.chance(3);
        Check.see(x, 0, 1);
        Check.due("kept", x.has(7), 2);
        Check.due("the same again", sound(x, text), 9);
        int[] due = {9, 2, 0, 0, 0, 0, 0, 0, 0, 0};
        for (int what = 0; what < 10; what++) {
            Check.due("has(" + what + ")", x.has(what), due[what]);
        }
        int[] boat = {8, 1, 5, 0, 0, 2, 0};
        for (int what = 0; what < 7; what++) {
            Check.due("boat(0, " + what + ")", x.boat(0, what), boat[what]);
        }
        Check.due("score", x.score(0, 1), 2);
        Check.due("sunk", x.boat(1, 3), 0);
        Check.due("kept(0, 0)", x.kept(0, 0), -1);
        Check.due("which", x.which(), 3);
        Check.due("undo", x.undo(), false);
        // three squalls had two DRAWS each; the seed goes on behind them
        long seed = 99;
        for (int k = 0; k < 8; k++) {
            seed = (1103515245L * seed + 12345) % (1L << 31);
        }
        x.chance(1);
        Check.due("the seed stays", x.boat(0, 1), 10 + seed / 64 % 10);
        nothingOfEarlierOnes();
    }

    /** Of sounds ahead of it nothing is left, nor of texts with a fault between them. */
    private static void nothingOfEarlierOnes() {
        String full = "sound 20;boat a at 1 tight 2 rosin 3;boat b at 4 tight 5 rosin 6;score a 1;score a 1;score b 1;rider r key 1;"
            + "wolf 1 0;wolf 1 1;carry 5;slips 6;swamp all;wind 7;squall 100;";
        for (int between = 0; between < 4; between++) {
            for (String wrong : new String[] {"", full + "x", full + "boat c at 1 tight 1 rosin 1"}) {
                CelloBoats y = Check.with(full);
                for (int k = 0; k < between; k++) {
                    sound(y, k % 2 == 0 ? wrong : full);
                }
                Check.due("less", sound(y, "sound 9;boat b at 1 tight 2 rosin 3;"), 2);
                int[] due = {9, 1, 0, 0, 0, 0, 0, 0, 0, 0};
                for (int what = 0; what < 10; what++) {
                    Check.due("has(" + what + ")", y.has(what), due[what]);
                }
                Check.due("no score", y.score(0, 0), -1);
                Check.due("no wolf", y.wolf(1, 0) + y.wolf(1, 1), 0);
                Check.due("no boat", y.boat(1, 0), -1);
                Check.due("no rider", y.rider(0), -1);
                Check.due("no carry", y.carry(0, 0), 1);
                Check.asked(y, "total wind", 0);
                Check.due("no squall", y.chance(50), 0);
                Check.due("less and a score", sound(y, "sound 9;boat b at 1 tight 2 rosin 3;score b 0;"), 3);
                y.hours(2);
                Check.due("mile", y.boat(0, 0), 3);
                Check.due("no slips", y.boat(0, 1), 2);
                Check.due("no swamp", y.boat(0, 3), 0);
                Check.due("one note", y.boat(0, 5), 1);
                Check.due("the name is free", sound(y, full), 14);
            }
        }
    }

    private static void fault() {
        Edge.section("5");
        Edge.of("Of the latest sound() or ask(): its FAULT (what 0; 0 without, and ahead of any), its place (1; NONE without).");
        CelloBoats x = new CelloBoats();
        dueFault("ahead of any", x, 0, -1);
        sound(x, "sound 4;");
        dueFault("of a sound", x, 2, 6);
        Check.ask(x, "bogus");
        dueFault("of ask() without a sound nothing changes", x, 2, 6);
        sound(x, "sound 9;");
        dueFault("of a sound without", x, 0, -1);
        Check.ask(x, "total bogus");
        dueFault("of a question", x, 1, 6);
        Check.ask(x, "total 1");
        dueFault("of a question without", x, 0, -1);
        Check.ask(x, "total(((((((");
        dueFault("of a question, 4", x, 4, 11);
        Check.see(x, 99, 99);
        x.on();
        x.hours(0);
        dueFault("what is no sound() and no ask() changes nothing", x, 4, 11);
        sound(x, "");
        dueFault("of an empty one", x, 1, 0);

        Edge.of("NONE for another what.");
        Check.due("fault(2)", x.fault(2), -1);
        for (int what : WILD) {
            Check.due("fault(" + what + ")", x.fault(what), -1);
        }
    }

    private static void dueFault(String what, CelloBoats x, int fault, int place) {
        Check.due(what + ", fault(0)", x.fault(0), fault);
        Check.due(what + ", fault(1)", x.fault(1), place);
    }

    private static void has() {
        Edge.section("6");
        Edge.of("0 the last mile, 1 BOATS, 2 RIDERS, 3 wolves, 4 HOUR, 5 LANDED, 6 SUNK, 7 what is told as KEPT, 8 rows SEEN, "
            + "9 ACTS that can be undone.");
        CelloBoats x = Check.with("sound 50;boat a at 49 tight 0 rosin 0;boat b at 49 tight 0 rosin 0;boat c at 1 tight 0 rosin 0;"
            + "boat d at 50 tight 0 rosin 0;score a 1;score b 1;score c 1;rider r key 1;wolf 1 2;wolf 1 3;swamp mile=2;");
        x.hours(7);
        x.tune(0, 9);
        Check.see(x, 0, 1, 1, 1, 2, 2, 3, 3, 4, 4, 5, 5, 6, 6, 7, 7);
        int[] due = {50, 4, 1, 2, 7, 3, 1, 3, 8, 2};
        for (int what = 0; what < 10; what++) {
            Check.due("has(" + what + ")", x.has(what), due[what]);
        }

        Edge.of("NONE for others.");
        Check.due("has(10)", x.has(10), -1);
        for (int what : WILD) {
            Check.due("has(" + what + ")", x.has(what), -1);
        }
    }

    private static void letter() {
        Edge.section("7");
        CelloBoats x = Check.with(TWO);
        Edge.of("Letter k (0 .. 5) of the NAME of a BOAT (kind 0), a RIDER (1): 1 .. 26; 0 behind it;");
        for (int k = 0; k < 6; k++) {
            Check.due("abcdef " + k, x.letter(0, 0, k), k + 1);
            Check.due("uvwxyz " + k, x.letter(1, 0, k), k + 21);
            Check.due("b " + k, x.letter(0, 1, k), k == 0 ? 2 : 0);
            Check.due("r " + k, x.letter(1, 1, k), k == 0 ? 18 : 0);
        }

        Edge.of("NONE when there is none such.");
        Check.due("letter 6", x.letter(0, 0, 6), -1);
        Check.due("letter 6 of a rider", x.letter(1, 0, 6), -1);
        Check.due("boat 2", x.letter(0, 2, 0), -1);
        Check.due("rider 2", x.letter(1, 2, 0), -1);
        Check.due("kind 2", x.letter(2, 0, 0), -1);
        for (int n : WILD) {
            Check.due("kind " + n, x.letter(n, 0, 0), -1);
            Check.due("boat " + n, x.letter(0, n, 0), -1);
            Check.due("rider " + n, x.letter(1, n, 0), -1);
            Check.due("k " + n, x.letter(0, 0, n), -1);
        }
        CelloBoats y = Check.with("sound 9;boat a at 0 tight 0 rosin 0;");
        Check.due("no rider 0", y.letter(1, 0, 0), -1);
        Check.due("no boat 0", Check.with("sound 9;rider a key 0;").letter(0, 0, 0), -1);
    }

    private static void boat() {
        Edge.section("8");
        CelloBoats x = Check.with(TWO);
        Edge.of("0 mile, 1 how tight, 2 rosin, 3 whether SUNK, 4 whether LANDED, 5 how many NOTES its score has, 6 the place of the next one.");
        int[][] due = {{9, 4, 5, 0, 1, 0, 0}, {1, 6, 7, 0, 0, 2, 0}};
        for (int boat = 0; boat < 2; boat++) {
            for (int what = 0; what < 7; what++) {
                Check.due("boat(" + boat + ", " + what + ")", x.boat(boat, what), due[boat][what]);
            }
        }

        Edge.of("NONE when there is none such, or for others.");
        Check.due("what 7", x.boat(0, 7), -1);
        Check.due("boat 2", x.boat(2, 0), -1);
        for (int n : WILD) {
            Check.due("boat " + n, x.boat(n, 0), -1);
            Check.due("what " + n, x.boat(0, n), -1);
        }
    }

    private static void score() {
        Edge.section("9");
        CelloBoats x = Check.with(TWO);
        Edge.of("The k-th NOTE of the score of a BOAT; NONE when there is none such.");
        Check.due("0", x.score(1, 0), 3);
        Check.due("1", x.score(1, 1), 0);
        Check.due("2", x.score(1, 2), -1);
        Check.due("of one without", x.score(0, 0), -1);
        Check.due("boat 2", x.score(2, 0), -1);
        for (int n : WILD) {
            Check.due("boat " + n, x.score(n, 0), -1);
            Check.due("k " + n, x.score(1, n), -1);
        }
        CelloBoats six = Check.with(TWO + "score b 1;score b 2;score b 4;score b 5;");
        Check.due("5", six.score(1, 5), 5);
        Check.due("6", six.score(1, 6), -1);
    }

    private static void carry() {
        Edge.section("10");
        CelloBoats x = Check.with("sound 9;boat a at 9 tight 0 rosin 0;boat b at 0 tight 0 rosin 0;boat c at 4 tight 0 rosin 0;"
            + "score c 0;carry note*4-wind*4;wind 4;squall 100;wolf 9 1;swamp all;");
        x.hours(1);
        Edge.of("How far a NOTE would carry a BOAT now (SUNK, LANDED or not; not cut at mile 0, at the last one), by the wind told;");
        Check.due("c is sunk", x.boat(2, 3), 1);
        int[] due = {-9, -9, -8, -4, 0, 4, 8, 9};
        for (int note = 0; note < 8; note++) {
            Check.due("landed " + note, x.carry(0, note), note == 1 ? 0 : due[note]);
            Check.due("at mile 0 " + note, x.carry(1, note), due[note]);
            Check.due("sunk " + note, x.carry(2, note), due[note]);
        }
        x.chance(3);
        Check.due("by the wind told", x.carry(1, 5), 4);
        Check.due("nothing is bowed", x.boat(1, 0), 0);

        Edge.of("NOTHING when there are none such.");
        Check.due("note 8", x.carry(0, 8), CelloBoats.NOTHING);
        Check.due("boat 3", x.carry(3, 0), CelloBoats.NOTHING);
        for (int n : WILD) {
            Check.due("boat " + n, x.carry(n, 0), CelloBoats.NOTHING);
            Check.due("note " + n, x.carry(0, n), CelloBoats.NOTHING);
        }
    }

    private static void wolf() {
        Edge.section("11");
        CelloBoats x = Check.with(TWO);
        Edge.of("Whether there is a wolf of a mile and a NOTE: 1 or 0; NONE when there are none such.");
        for (int mile = 0; mile < 10; mile++) {
            for (int note = 0; note < 8; note++) {
                Check.due("wolf(" + mile + ", " + note + ")", x.wolf(mile, note), mile == 0 && note == 0 || mile == 9 && note == 7 ? 1 : 0);
            }
            Check.due("note 8", x.wolf(mile, 8), -1);
        }
        Check.due("mile 10", x.wolf(10, 0), -1);
        for (int n : WILD) {
            Check.due("mile " + n, x.wolf(n, 0), -1);
            Check.due("note " + n, x.wolf(0, n), -1);
        }
        Check.due("without a sound", new CelloBoats().wolf(0, 0), -1);
        Check.due("mile 60", Check.with("sound 60;wolf 60 7;").wolf(60, 7), 1);
        Check.due("mile 61", Check.with("sound 60;wolf 60 7;").wolf(61, 7), -1);
    }

    private static void rider() {
        Edge.section("12");
        CelloBoats x = Check.with(TWO);
        Edge.of("The key of a RIDER; NONE when there is none such.");
        Check.due("0", x.rider(0), 3);
        Check.due("1", x.rider(1), 7);
        Check.due("2", x.rider(2), -1);
        for (int n : WILD) {
            Check.due("rider " + n, x.rider(n), -1);
        }
    }

    private static void kept() {
        Edge.section("13");
        CelloBoats x = Check.with("sound 9;boat a at 1 tight 0 rosin 0;boat b at 8 tight 0 rosin 0;score a 0;score b 0;score b 1;"
            + "swamp mile=3;wolf 8 0;");
        x.hours(2);
        Edge.of("Of what is told as KEPT, the k-th from the oldest on: 0 HOUR, 1 BOAT, 2 whether it LANDED.");
        int[][] due = {{1, 0, 0}, {1, 1, 1}};
        for (int k = 0; k < 2; k++) {
            for (int what = 0; what < 3; what++) {
                Check.due("kept(" + k + ", " + what + ")", x.kept(k, what), due[k][what]);
            }
        }

        Edge.of("NONE when there is none such, or for others.");
        Check.due("k 2", x.kept(2, 0), -1);
        Check.due("what 3", x.kept(0, 3), -1);
        for (int n : WILD) {
            Check.due("k " + n, x.kept(n, 0), -1);
            Check.due("what " + n, x.kept(0, n), -1);
        }
        x.undo();
        Check.due("undone", x.kept(0, 0), -1);
        Check.due("of a new one", new CelloBoats().kept(0, 0), -1);
    }
}
