/** Promises 25 to 37: each boundary case that they name. */
public final class EdgesPromises3Test {
    /** What is no number of anything. */
    private static final int[] WILD = {-1, -2, Integer.MIN_VALUE, Integer.MAX_VALUE, 1 << 30, -(1 << 28), 1000};
    private static final String TWO = "sound 9;boat a at 1 tight 2 rosin 3;boat b at 4 tight 5 rosin 6;score a 7;score a 0;swamp mile=3;";

    public static void main(String[] args) {
        tune();
        rosin();
        raise();
        note();
        hours();
        chance();
        undo();
        undoEach();
        seed();
        ask();
        image();
        octet();
        on();
        onRefused();
        status();
        Check.finish();
    }

    /** A call that was refused: counted, and nothing is changed. */
    private static void dueRefused(String what, CelloBoats x, int kind, int refused) {
        Check.due(what + ", refused", x.status(kind), refused);
        Check.due(what + ", no act", x.has(9), 0);
    }

    private static void tune() {
        Edge.section("25");
        Edge.of("A BOAT is tuned (0 .. 99): true;");
        CelloBoats x = Check.with(TWO);
        Check.due("0", x.tune(0, 0), true);
        Check.due("it is 0", x.boat(0, 1), 0);
        Check.due("99", x.tune(0, 99), true);
        Check.due("it is 99", x.boat(0, 1), 99);
        Check.due("the other is not tuned", x.boat(1, 1), 5);
        Check.due("acts", x.has(9), 2);
        x.note(0, 0, 1);
        x.hours(2);
        Check.due("a sunk one", x.tune(0, 8), true);
        CelloBoats landed = Check.with("sound 9;boat a at 9 tight 2 rosin 3;");
        Check.due("a landed one", landed.tune(0, 8), true);

        Edge.of("false, refused (2), when it is so tight, there is none such, or for others.");
        CelloBoats y = Check.with(TWO);
        int refused = 0;
        Check.due("so tight", y.tune(0, 2), false);
        dueRefused("so tight", y, 2, ++refused);
        Check.due("100", y.tune(0, 100), false);
        dueRefused("100", y, 2, ++refused);
        Check.due("boat 2", y.tune(2, 1), false);
        dueRefused("boat 2", y, 2, ++refused);
        for (int n : WILD) {
            Check.due("boat " + n, y.tune(n, 1), false);
            dueRefused("boat " + n, y, 2, ++refused);
            Check.due("tight " + n, y.tune(0, n), false);
            dueRefused("tight " + n, y, 2, ++refused);
        }
        Check.due("as it was", y.boat(0, 1), 2);
    }

    private static void rosin() {
        Edge.section("26");
        Edge.of("A BOAT gets rosin (1 .. 99): how much it has;");
        CelloBoats x = Check.with(TWO);
        Check.due("1", x.rosin(0, 1), 4);
        Check.due("94", x.rosin(0, 94), 98);
        Check.due("99", x.rosin(0, 99), 99);
        Check.due("it has 99", x.boat(0, 2), 99);
        Check.due("the other has its own", x.boat(1, 2), 6);
        Check.due("acts", x.has(9), 3);
        CelloBoats none = Check.with("sound 9;boat a at 9 tight 2 rosin 0;");
        Check.due("99 of 0, landed", none.rosin(0, 99), 99);
        CelloBoats sunk = Check.with("sound 9;boat a at 1 tight 2 rosin 3;score a 1;swamp all;");
        sunk.hours(1);
        Check.due("sunk", sunk.boat(0, 3), 1);
        Check.due("4 of 2, sunk", sunk.rosin(0, 4), 6);

        Edge.of("NONE, refused (2), when it has 99, there is none such, or for others.");
        CelloBoats y = Check.with("sound 9;boat a at 1 tight 2 rosin 99;boat b at 1 tight 2 rosin 98;");
        int refused = 0;
        Check.due("it has 99", y.rosin(0, 1), -1);
        dueRefused("it has 99", y, 2, ++refused);
        Check.due("boat 2", y.rosin(2, 1), -1);
        dueRefused("boat 2", y, 2, ++refused);
        Check.due("0", y.rosin(1, 0), -1);
        dueRefused("0", y, 2, ++refused);
        Check.due("100", y.rosin(1, 100), -1);
        dueRefused("100", y, 2, ++refused);
        for (int n : WILD) {
            Check.due("boat " + n, y.rosin(n, 1), -1);
            dueRefused("boat " + n, y, 2, ++refused);
            Check.due("much " + n, y.rosin(1, n), -1);
            dueRefused("much " + n, y, 2, ++refused);
        }
        Check.due("as it was", y.boat(1, 2), 98);
    }

    private static void raise() {
        Edge.section("27");
        Edge.of("A BOAT is raised: true;");
        CelloBoats x = Check.with(TWO);
        x.hours(2);
        Check.due("sunk", x.boat(0, 3), 1);
        Check.due("raised", x.raise(0), true);
        Check.due("not sunk", x.boat(0, 3), 0);
        Check.due("where it was", x.boat(0, 0), 3);
        Check.due("acts", x.has(9), 2);

        Edge.of("false, refused (2), when it is not SUNK, or there is none such.");
        CelloBoats y = Check.with(TWO);
        int refused = 0;
        Check.due("not sunk", y.raise(0), false);
        dueRefused("not sunk", y, 2, ++refused);
        Check.due("boat 2", y.raise(2), false);
        dueRefused("boat 2", y, 2, ++refused);
        for (int n : WILD) {
            Check.due("boat " + n, y.raise(n), false);
            dueRefused("boat " + n, y, 2, ++refused);
        }
    }

    private static void note() {
        Edge.section("28");
        Edge.of("The k-th NOTE of a score is another one (0 .. 7): true;");
        CelloBoats x = Check.with(TWO);
        Check.due("0", x.note(0, 0, 0), true);
        Check.due("it is 0", x.score(0, 0), 0);
        Check.due("7", x.note(0, 1, 7), true);
        Check.due("it is 7", x.score(0, 1), 7);
        Check.due("the first still", x.score(0, 0), 0);
        Check.due("acts", x.has(9), 2);
        CelloBoats under = Check.with("sound 9;boat a at 1 tight 2 rosin 3;boat b at 9 tight 2 rosin 3;score a 1;score a 2;score b 1;score a 3;carry 0;");
        under.hours(2);
        Check.due("ahead of the next one", under.note(0, 0, 4), true);
        Check.due("the next one itself", under.note(0, 2, 5), true);
        Check.due("the next one is where it was", under.boat(0, 6), 2);
        Check.due("of a landed one", under.note(1, 0, 6), true);
        Check.due("of a landed one it is 6", under.score(1, 0), 6);
        // what stands at another place, or is the number of a place, is no matter
        CelloBoats same = Check.with("sound 9;boat a at 1 tight 2 rosin 3;score a 7;score a 5;score a 4;");
        Check.due("that of another place", same.note(0, 1, 7), true);
        Check.due("that of another place, 0", same.note(0, 1, 0), true);
        Check.due("the third as the first", same.note(0, 2, 7), true);
        Check.due("they are", same.score(0, 0) * 100 + same.score(0, 1) * 10 + same.score(0, 2), 707);
        CelloBoats six = Check.with(TWO + "score b 1;".repeat(6));
        Check.due("the sixth", six.note(1, 5, 2), true);
        Check.due("the seventh", six.note(1, 6, 2), false);

        Edge.of("false, refused (2), when it is that, there is none such, or for others.");
        CelloBoats y = Check.with(TWO);
        int refused = 0;
        Check.due("it is that", y.note(0, 0, 7), false);
        dueRefused("it is that", y, 2, ++refused);
        Check.due("it is that, the second", y.note(0, 1, 0), false);
        dueRefused("it is that, the second", y, 2, ++refused);
        Check.due("8", y.note(0, 0, 8), false);
        dueRefused("8", y, 2, ++refused);
        Check.due("k 2", y.note(0, 2, 1), false);
        dueRefused("k 2", y, 2, ++refused);
        Check.due("without a score", y.note(1, 0, 1), false);
        dueRefused("without a score", y, 2, ++refused);
        Check.due("boat 2", y.note(2, 0, 1), false);
        dueRefused("boat 2", y, 2, ++refused);
        for (int n : WILD) {
            Check.due("boat " + n, y.note(n, 0, 1), false);
            dueRefused("boat " + n, y, 2, ++refused);
            Check.due("k " + n, y.note(0, n, 1), false);
            dueRefused("k " + n, y, 2, ++refused);
            Check.due("note " + n, y.note(0, 0, n), false);
            dueRefused("note " + n, y, 2, ++refused);
        }
        Check.due("as it was", y.score(0, 0), 7);
    }

    private static void hours() {
        Edge.section("29");
        Edge.of("n HOURS (1 .. 100): how many BOATS LANDED;");
        CelloBoats x = Check.with("sound 60;boat a at 59 tight 0 rosin 0;boat b at 58 tight 0 rosin 0;boat c at 60 tight 0 rosin 0;"
            + "boat d at 0 tight 0 rosin 0;boat e at 0 tight 0 rosin 0;score a 1;score b 1;score c 1;score d 1;score e 2;swamp note=2;");
        Check.due("1", x.hours(1), 1);
        Check.due("hour 1", x.has(4), 1);
        x.undo();
        Check.due("2", x.hours(2), 2);
        Check.due("100", x.hours(100), 1);
        Check.due("hour 102", x.has(4), 102);
        Check.due("none", x.hours(100), 0);
        Check.due("one act each", x.has(9), 3);

        Edge.of("NONE, refused (3), when it can't be, or without a sound.");
        CelloBoats y = Check.with(TWO);
        int refused = 0;
        Check.due("0", y.hours(0), -1);
        dueRefused("0", y, 3, ++refused);
        Check.due("101", y.hours(101), -1);
        dueRefused("101", y, 3, ++refused);
        for (int n : WILD) {
            Check.due("n " + n, y.hours(n), -1);
            dueRefused("n " + n, y, 3, ++refused);
        }
        Check.due("hour 0", y.has(4), 0);
        CelloBoats without = new CelloBoats();
        Check.due("without a sound", without.hours(1), -1);
        dueRefused("without a sound", without, 3, 1);
        Check.due("no hour without a sound", without.has(4), 0);
        dueToTheEnd(false);
    }

    private static void dueToTheEnd(boolean byChance) {
        for (int hour = 899; hour <= 900; hour++) {
            CelloBoats x = Check.with("sound 60;");
            Check.put(x, Check.image(3, hour - 768));
            Check.due("on", x.on(), true);
            int got = byChance ? x.chance(100) : x.hours(100);
            Check.due("100 at " + hour, got, hour == 899 ? 0 : -1);
            Check.due("hour", x.has(4), hour == 899 ? 999 : 900);
            got = byChance ? x.chance(99) : x.hours(99);
            Check.due("99 then", got, hour == 899 ? -1 : 0);
            Check.due("999", x.has(4), 999);
            Check.due("refused", x.status(3), 1);
        }
    }

    private static void chance() {
        Edge.section("30");
        Edge.of("n HOURS by the seed (1 .. 100), one ACT: how many squalls;");
        CelloBoats x = Check.with("sound 60;boat a at 58 tight 0 rosin 0;score a 1;squall 100;");
        Check.due("1", x.chance(1), 1);
        Check.due("hour 1", x.has(4), 1);
        Check.due("one act", x.has(9), 1);
        Check.due("100", x.chance(100), 100);
        Check.due("hour 101", x.has(4), 101);
        Check.due("two acts", x.has(9), 2);
        Check.due("landed", x.kept(0, 0), 1);
        x.undo();
        Check.due("undone as one", x.has(4), 1);
        CelloBoats calm = Check.with("sound 60;");
        Check.due("no squalls", calm.chance(100), 0);

        Edge.of("NONE, refused (3), when it can't be, or without a sound.");
        CelloBoats y = Check.with(TWO + "squall 100;slips 10+wind;");
        int refused = 0;
        Check.due("0", y.chance(0), -1);
        dueRefused("0", y, 3, ++refused);
        Check.due("101", y.chance(101), -1);
        dueRefused("101", y, 3, ++refused);
        for (int n : WILD) {
            Check.due("n " + n, y.chance(n), -1);
            dueRefused("n " + n, y, 3, ++refused);
        }
        // no DRAW was made for what was refused: from 1 on the second one is the wind
        long seed = (1103515245L + 12345) % (1L << 31);
        seed = (1103515245L * seed + 12345) % (1L << 31);
        y.chance(1);
        Check.due("the seed was as it was", y.boat(0, 1), 10 + seed / 64 % 10);
        CelloBoats without = new CelloBoats();
        Check.due("without a sound", without.chance(1), -1);
        dueRefused("without a sound", without, 3, 1);
        dueToTheEnd(true);
    }

    private static void undo() {
        Edge.section("31");
        Edge.of("The latest ACT is undone (the seed stays): true;");
        CelloBoats x = Check.with("sound 60;boat a at 0 tight 0 rosin 0;score a 1;squall 100;slips 10+wind;");
        x.seed(7);
        x.chance(2);
        Check.due("undo", x.undo(), true);
        Check.due("hour 0", x.has(4), 0);
        Check.due("tight 0", x.boat(0, 1), 0);
        long seed = 7;
        for (int k = 0; k < 6; k++) {
            seed = (1103515245L * seed + 12345) % (1L << 31);
        }
        x.chance(1);
        Check.due("the seed stays", x.boat(0, 1), 10 + seed / 64 % 10);
        x.seed(7);
        Check.due("undo again", x.undo(), true);
        Check.due("a seed is no act", x.has(9), 0);
        long two = (1103515245L * ((1103515245L * 7 + 12345) % (1L << 31)) + 12345) % (1L << 31);
        x.chance(1);
        Check.due("the seed told stays", x.boat(0, 1), 10 + two / 64 % 10);

        Edge.of("false, refused (4), when none can be.");
        CelloBoats none = new CelloBoats();
        Check.due("of a new one", none.undo(), false);
        Check.due("of a new one, refused", none.status(4), 1);
        x.undo();
        Check.due("none is left", x.undo(), false);
        Check.due("none is left, refused", x.status(4), 1);
        x.tune(0, 5);
        Check.put(x, TWO);
        x.sound();
        Check.due("behind a sound", x.undo(), false);
        x.tune(0, 5);
        x.image();
        Check.put(x, Check.image(0, 0, 1, 2, 3, 0, 0, 7, 0, 4, 5, 6, 0, 0));
        x.on();
        Check.due("behind an image", x.undo(), false);
        Check.due("refused", x.status(4), 3);
    }

    /** Of each ACT all that it changed, and nothing else. */
    private static void undoEach() {
        Edge.of("The latest ACT is undone (the seed stays): true;");
        CelloBoats x = Check.with("sound 9;boat a at 7 tight 5 rosin 9;boat b at 1 tight 5 rosin 9;score a 1;score a 2;score b 3;"
            + "slips tight-1;swamp mile=3;squall 50;");
        byte[][] images = new byte[9][];
        int[] kept = new int[9];
        for (int k = 0; k < 8; k++) {
            images[k] = imageOf(x);
            kept[k] = x.has(7);
            switch (k) {
                case 0: x.tune(0, 99); break;
                case 1: x.rosin(1, 7); break;
                case 2: x.note(0, 1, 6); break;
                case 3: x.hours(2); break;
                case 4: x.raise(1); break;
                case 5: x.chance(3); break;
                case 6: x.tune(1, 1); break;
                default: x.hours(100);
            }
        }
        Check.due("acts", x.has(9), 8);
        for (int k = 7; k >= 0; k--) {
            Check.due("undo " + k, x.undo(), true);
            Check.due("all as it was " + k, java.util.Arrays.equals(imageOf(x), images[k]), true);
            Check.due("kept as it was " + k, x.has(7), kept[k]);
        }
    }

    private static byte[] imageOf(CelloBoats x) {
        int[] row = Check.octets(x, x.image());
        return Check.bytes(row);
    }

    private static void seed() {
        Edge.section("32");
        Edge.of("The seed: true; false, refused (5), when it is below 0. (It is 1 at first.)");
        CelloBoats x = Check.with("sound 60;boat a at 0 tight 0 rosin 0;score a 1;carry 0;squall 100;slips 10+wind;");
        x.chance(1);
        int first = x.boat(0, 1);
        Check.due("-1", x.seed(-1), false);
        Check.due("the least", x.seed(Integer.MIN_VALUE), false);
        Check.due("refused", x.status(5), 2);
        long seed = 1;
        for (int k = 0; k < 4; k++) {
            seed = (1103515245L * seed + 12345) % (1L << 31);
        }
        x.chance(1);
        Check.due("the seed stays", x.boat(0, 1), 10 + seed / 64 % 10);
        Check.due("1", x.seed(1), true);
        x.chance(1);
        Check.due("as at first", x.boat(0, 1), first);
        Check.due("0", x.seed(0), true);
        x.chance(1);
        long two = (1103515245L * 12345 + 12345) % (1L << 31);
        Check.due("by 0", x.boat(0, 1), 10 + two / 64 % 10);
        Check.due("the greatest", x.seed(Integer.MAX_VALUE), true);
        Check.due("no act", x.has(9), 4);
        Check.due("without a sound", new CelloBoats().seed(3), true);
    }

    private static void ask() {
        Edge.section("33");
        Edge.of("The tape (it goes) is a QUESTION: its answer; NONE of first, last, when its TEST holds for none;");
        CelloBoats x = Check.with(TWO);
        Check.asked(x, "first mile=4", 1);
        Check.due("it went", x.feed(0, 0, 0, 0, 0), 20);
        x.end(0);
        Check.asked(x, "first mile=5", -1);
        Check.asked(x, "last mile=5", -1);
        Check.asked(x, "often mile=5", 0);
        Check.asked(x, "most 0-1", -1);
        Check.due("nothing has changed", x.has(4) + x.has(9), 0);

        Edge.of("NOTHING with a FAULT, or, doing nothing else, without a sound.");
        Check.askFault(x, "", 1, 0);
        Check.askFault(x, "total 1;", 1, 7);
        Check.due("it went with a fault", x.feed(0, 0, 0, 0, 0), 20);
        for (int what = 0; what < 6; what++) {
            Check.due("nothing is refused " + what, x.status(what), 0);
        }
        CelloBoats without = new CelloBoats();
        Check.due("without a sound", Check.ask(without, "often all"), CelloBoats.NOTHING);
        Check.due("without a sound, a wrong one", Check.ask(without, "bogus"), CelloBoats.NOTHING);
        Check.due("no fault", without.fault(0), 0);
        Check.due("no place", without.fault(1), -1);
        for (int what = 0; what < 6; what++) {
            Check.due("nothing is refused without a sound " + what, without.status(what), 0);
        }
        Check.due("it went without a sound", without.feed(0, 0, 0, 0, 0), 20);
    }

    private static void image() {
        Edge.section("34");
        Edge.of("AN IMAGE is written: how many bytes.");
        Check.due("without a sound", new CelloBoats().image(), 3);
        Check.due("without boats", Check.with("sound 9;").image(), 3);
        Check.due("a boat without a score", Check.with("sound 9;boat a at 0 tight 0 rosin 0;").image(), 8);
        Check.due("two boats, two notes", Check.with(TWO).image(), 15);
        StringBuilder full = new StringBuilder("sound 9;");
        for (char c = 'a'; c <= 'f'; c++) {
            full.append("boat ").append(c).append(" at 0 tight 0 rosin 0;").append(("score " + c + " 7;").repeat(6));
        }
        CelloBoats x = Check.with(full.toString());
        Check.due("all there can be", x.image(), 69);
        Check.due("its last note", x.octet(67), 7);
        Check.due("its last byte is there", x.octet(68) >= 0, true);
        Check.due("no more", x.octet(69), -1);
        Check.due("no act", x.has(9), 0);
    }

    private static void octet() {
        Edge.section("35");
        Edge.of("Byte k of the latest image(); NONE when there is none such.");
        CelloBoats x = new CelloBoats();
        Check.due("ahead of any", x.octet(0), -1);
        Check.put(x, TWO);
        x.sound();
        Check.due("without image()", x.octet(0), -1);
        x.image();
        Check.due("byte 2", x.octet(2), 1);
        x.hours(1);
        Check.due("the latest, not now", x.octet(2), 1);
        Check.due("hour then", x.octet(1), 0);
        Check.due("byte 14", x.octet(14) >= 0, true);
        Check.due("byte 15", x.octet(15), -1);
        for (int n : WILD) {
            Check.due("byte " + n, x.octet(n), -1);
        }
        x.image();
        Check.due("the latest now", x.octet(2), 2);
        Check.due("hour now", x.octet(1), 1);
        Check.put(x, "sound 9;");
        x.sound();
        Check.due("the latest behind another sound", x.octet(2), 2);
        x.image();
        Check.due("a shorter one", x.octet(3), -1);
    }

    private static void on() {
        Edge.section("36");
        Edge.of("The tape (it goes) is AN IMAGE of this SOUND: true, all is as it tells, nothing is KEPT or can be undone;");
        CelloBoats x = Check.with(TWO);
        x.hours(2);
        Check.due("kept", x.has(7), 1);
        int[] image = {3, 231, 9, 99, 99, 0, 1, 7, 7, 8, 99, 99, 1, 0};
        Check.put(x, Check.image(image));
        Check.due("on", x.on(), true);
        Check.due("it went", x.feed(0, 0, 0, 0, 0), 20);
        x.end(0);
        int[] has = {9, 2, 0, 0, 999, 1, 1, 0, 0, 0};
        for (int what = 0; what < 10; what++) {
            Check.due("has(" + what + ")", x.has(what), has[what]);
        }
        x.image();
        for (int k = 0; k < image.length; k++) {
            Check.due("byte " + k, x.octet(k), image[k]);
        }
        Check.due("kept(0, 0)", x.kept(0, 0), -1);
        Check.due("undo", x.undo(), false);
        Check.put(x, Check.image(0, 0, 0, 0, 0, 0, 0, 0, 0, 0, 0, 0, 0, 0));
        Check.due("all 0", x.on(), true);
        Check.due("hour 0", x.has(4), 0);
        Check.due("hours from there", x.hours(1), 0);
        Check.due("kept from there", x.has(7), 0);
        Check.due("acts from there", x.has(9), 1);
        Check.put(x, Check.image(0, 0, 8, 0, 0, 1, 0, 0, 0, 0, 0, 0, 1, 0));
        Check.due("sunk one ahead of the last, and at 0", x.on(), true);
    }

    private static void onRefused() {
        Edge.of("false, refused (5), when it is none (HOUR 999, 99 of each at most; miles, places, NOTES that there are, "
            + "place 0 of a score without NOTES; none SUNK at the last mile), or without a sound, all staying.");
        int[] fine = {0, 0, 1, 2, 3, 0, 0, 7, 0, 4, 5, 6, 0, 0};
        // place, then what can't stand there
        int[][] wrong = {{0, 4}, {0, 255}, {2, 10}, {2, 255}, {3, 100}, {3, 255}, {4, 100}, {4, 255}, {5, 2}, {5, 255},
            {6, 2}, {6, 255}, {7, 8}, {7, 255}, {8, 8}, {8, 255}, {9, 10}, {10, 100}, {11, 100}, {12, 2}, {13, 1}, {13, 255}};
        for (int[] one : wrong) {
            int[] image = fine.clone();
            image[one[0]] = one[1];
            dueNone("byte " + one[0] + " is " + one[1], Check.image(image));
        }
        dueNone("hour 1000", Check.image(3, 232, 1, 2, 3, 0, 0, 7, 0, 4, 5, 6, 0, 0));
        dueNone("sunk at the last mile", Check.image(0, 0, 9, 2, 3, 1, 0, 7, 0, 4, 5, 6, 0, 0));
        dueNone("the other sunk at the last mile", Check.image(0, 0, 1, 2, 3, 0, 0, 7, 0, 9, 5, 6, 1, 0));
        dueNone("a byte too few", Check.image(0, 0, 1, 2, 3, 0, 0, 7, 0, 4, 5, 6, 0));
        dueNone("a byte too many", Check.image(0, 0, 1, 2, 3, 0, 0, 7, 0, 4, 5, 6, 0, 0, 0));
        dueNone("nothing", new byte[0]);
        dueNone("an hour alone", Check.image(0, 0));
        byte[] image = Check.image(fine);
        for (int k = 0; k < image.length; k++) {
            byte[] other = image.clone();
            other[k] ^= 1;
            dueNone("byte " + k + " is another", other);
        }
        dueNone("cut", java.util.Arrays.copyOf(image, image.length - 1));
        dueNone("a byte behind it", java.util.Arrays.copyOf(image, image.length + 1));
        CelloBoats without = new CelloBoats();
        Check.put(without, Check.image(0, 0));
        Check.due("without a sound", without.on(), false);
        Check.due("without a sound, refused", without.status(5), 1);
        Check.due("without a sound, it went", without.feed(0, 0, 0, 0, 0), 20);
    }

    private static void dueNone(String what, byte[] image) {
        CelloBoats x = Check.with(TWO);
        x.hours(2);
        Check.see(x, 0, 8);
        Check.put(x, image);
        Check.due(what, x.on(), false);
        Check.due(what + ", refused", x.status(5), 1);
        Check.due(what + ", it went", x.end(1), false);
        int[] has = {9, 2, 0, 0, 2, 0, 1, 1, 1, 1};
        for (int k = 0; k < 10; k++) {
            Check.due(what + ", has(" + k + ")", x.has(k), has[k]);
        }
        int[][] boats = {{3, 2, 1, 1, 0, 2, 0}, {4, 5, 6, 0, 0, 0, 0}};
        for (int k = 0; k < 14; k++) {
            Check.due(what + ", boat(" + k / 7 + ", " + k % 7 + ")", x.boat(k / 7, k % 7), boats[k / 7][k % 7]);
        }
        Check.due(what + ", note 0", x.score(0, 0), 7);
        Check.due(what + ", note 1", x.score(0, 1), 0);
    }

    private static void status() {
        Edge.section("37");
        Edge.of("How many were refused: 0 feed(), end(); 1 sound(), see(); 2 tune(), rosin(), raise(), note(); 3 hours(), chance(); "
            + "4 undo(); 5 seed(), on().");
        int[] kind = {0, 0, 1, 1, 2, 2, 2, 2, 3, 3, 4, 5, 5};
        CelloBoats x = new CelloBoats();
        int[] due = new int[6];
        for (int call = 0; call < kind.length; call++) {
            refuse(x, call);
            due[kind[call]]++;
            for (int what = 0; what < 6; what++) {
                Check.due("status(" + what + ") behind call " + call, x.status(what), due[what]);
            }
        }
        CelloBoats fine = Check.with(TWO);
        fine.tune(0, 7);
        fine.undo();
        fine.seed(3);
        fine.has(-1);
        fine.plan(-1, -1, -1);
        fine.octet(-1);
        Check.ask(fine, "bogus");
        for (int what = 0; what < 6; what++) {
            Check.due("nothing refused " + what, fine.status(what), 0);
        }

        Edge.of("NONE for others.");
        Check.due("status(6)", x.status(6), -1);
        for (int n : WILD) {
            Check.due("status(" + n + ")", x.status(n), -1);
        }
    }

    private static void refuse(CelloBoats x, int call) {
        switch (call) {
            case 0:
                for (int k = 0; k < 81; k++) {
                    x.feed(0, 0, 0, 0, 0);
                }
                break;
            case 1: x.end(-1); break;
            case 2: x.sound(); break;
            case 3: x.see(); break;
            case 4: x.tune(0, 0); break;
            case 5: x.rosin(0, 1); break;
            case 6: x.raise(0); break;
            case 7: x.note(0, 0, 0); break;
            case 8: x.hours(1); break;
            case 9: x.chance(1); break;
            case 10: x.undo(); break;
            case 11: x.seed(-1); break;
            default: x.on();
        }
    }
}
