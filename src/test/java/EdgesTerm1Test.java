/** Term I: each boundary case of a SOUND's text, and each kind of FAULT. */
public final class EdgesTerm1Test {
    private static final String BOAT = "sound 9;boat b at 0 tight 1 rosin 1;";

    public static void main(String[] args) {
        Edge.section("I");
        statements();
        boats();
        scores();
        wolvesAndRiders();
        formulas();
        windAndSquall();
        grammar();
        arithmetic();
        names();
        blanks();
        faultOne();
        faultOneAtTheEnd();
        otherFaults();
        faultFour();
        faultFive();
        Check.finish();
    }

    private static void statements() {
        Edge.of("{ STATEMENT ; } (80 at most)");
        String full = "sound 5;" + "wind 1;".repeat(79);
        Check.soundFine(full, 80);
        Check.soundFault(full + "wind 1;", 5, full.length());
        Check.soundFault("sound 5", 1, 7);

        Edge.of("sound N (5 .. 60 miles, 0 and on to the last;");
        for (int last : new int[] {5, 6, 59, 60}) {
            CelloBoats x = Check.with("sound " + last + ";");
            Check.due("last mile", x.has(0), last);
            Check.due("mile 0", x.wolf(0, 0), 0);
            Check.due("the last", x.wolf(last, 0), 0);
            Check.due("one more", x.wolf(last + 1, 0), -1);
            Check.due("one less than 0", x.wolf(-1, 0), -1);
        }
        for (String n : new String[] {"0", "4", "61", "9999"}) {
            Check.soundFault("sound " + n + ";", 2, 6);
        }

        Edge.of("the first STATEMENT, and it alone)");
        Check.soundFault("wind 1;sound 9;", 1, 0);
        Check.soundFault("sound 9;sound 9;", 1, 8);
        Check.soundFault("sound 9;wind 1;sound 9;", 1, 15);
    }

    private static void boats() {
        Edge.of("boat NAME at N tight N rosin N (a mile, 0 .. 99 each;");
        CelloBoats x = Check.with("sound 9;boat a at 0 tight 0 rosin 0;boat b at 9 tight 99 rosin 99;");
        int[][] due = {{0, 0, 0}, {9, 99, 99}};
        for (int boat = 0; boat < 2; boat++) {
            for (int what = 0; what < 3; what++) {
                Check.due("boat(" + boat + ", " + what + ")", x.boat(boat, what), due[boat][what]);
            }
        }
        Check.soundFault("sound 9;boat a at 10 tight 0 rosin 0;", 2, 18);
        Check.soundFault("sound 9;boat a at 9 tight 100 rosin 0;", 2, 26);
        Check.soundFault("sound 9;boat a at 9 tight 99 rosin 100;", 2, 35);

        Edge.of("6 BOATS)");
        String six = sixOf("boat ", " at 0 tight 1 rosin 1;");
        Check.soundFine(six, 7);
        Check.due("six", Check.with(six).has(1), 6);
        Check.soundFault(six + "boat g at 0 tight 1 rosin 1;", 5, six.length());
        sixthBoat();
    }

    /** The last of six is asked, bowed and ridden on like all others. */
    private static void sixthBoat() {
        String scores = "score a 0;score b 0;score c 0;score d 0;score e 0;score f 0;";
        CelloBoats x = Check.with(sixOf("boat ", " at 0 tight 1 rosin 1;") + scores + "score f 5;rider r key 5;slips tight+1;");
        Check.due("alike, the most left", x.tells(1), 5);
        Check.due("alike but one, the hour", x.tells(0), 1);
        Check.due("rider of the sixth", x.rides(0), 5);
        Check.due("which of six", x.which(), 63);
        Check.see(x, 1, 5);
        Check.due("the sixth by its note", x.which(), 32);
        Check.due("lands", x.lands(5), 9);
        Check.due("none sinks", x.cat(0), -1);
        Check.due("none has sunk", x.has(6), 0);
        Check.due("none has landed", x.has(5), 0);
        Check.due("plan", x.plan(5, 3, -1), 3);
        Check.due("hours", x.hours(2), 0);
        for (int boat = 0; boat < 6; boat++) {
            Check.due("mile of " + boat, x.boat(boat, 0), 2);
            Check.due("tight of " + boat, x.boat(boat, 1), 3);
            Check.due("rosin of " + boat, x.boat(boat, 2), 0);
        }
        Check.due("place of the sixth", x.boat(5, 6), 0);
        Check.asked(x, "last all", 5);
        Check.asked(x, "total number", 15);
        int[] image = Check.octets(x, x.image());
        x.hours(7);
        Check.due("all landed", x.has(5), 6);
        Check.due("kept", x.kept(5, 1), 5);
        Check.put(x, Check.bytes(image));
        Check.due("on", x.on(), true);
        Check.due("the sixth is back", x.boat(5, 0), 2);
        Check.due("no other is landed", x.has(5), 0);
        CelloBoats like = Check.with(sixOf("boat ", " at 0 tight 1 rosin 1;") + scores);
        Check.due("six that are alike", like.tells(1), 6);
        Check.due("the first hour", like.tells(0), 0);
        CelloBoats sinks = Check.with(sixOf("boat ", " at 0 tight 1 rosin 1;") + "score f 5;swamp all;");
        Check.due("the sixth sinks", sinks.cat(1), 5);
        CelloBoats late = Check.with(sixOf("boat ", " at 0 tight 1 rosin 61;") + "score f 5;carry 0;swamp rosin=1;");
        Check.due("the sixth sinks too late", late.cat(1), -1);
        late.hours(1);
        Check.due("the sixth sinks in the last hour", late.cat(1), 5);
        sinks.hours(1);
        Check.due("the sixth has sunk", sinks.has(6), 1);
        Check.due("the sixth is raised", sinks.raise(5), true);
    }

    /** A sound, and one for each of the letters a to f. */
    private static String sixOf(String ahead, String behind) {
        StringBuilder text = new StringBuilder("sound 9;");
        for (char c = 'a'; c <= 'f'; c++) {
            text.append(ahead).append(c).append(behind);
        }
        return text.toString();
    }

    private static void scores() {
        Edge.of("a NOTE 0 .. 7, behind those told;");
        CelloBoats x = Check.with(BOAT + "score b 7;score b 0;score b 3;");
        int[] notes = {7, 0, 3, -1};
        for (int k = 0; k < notes.length; k++) {
            Check.due("note " + k, x.score(0, k), notes[k]);
        }
        Check.soundFault(BOAT + "score b 8;", 2, BOAT.length() + 8);

        Edge.of("6 of each BOAT)");
        String two = BOAT + "boat c at 0 tight 1 rosin 1;";
        String full = two + "score b 1;score c 2;".repeat(6);
        CelloBoats y = Check.with(full);
        Check.due("six of b", y.boat(0, 5), 6);
        Check.due("six of c", y.boat(1, 5), 6);
        Check.due("the last of c", y.score(1, 5), 2);
        Check.soundFault(full + "score b 1;", 5, full.length() + 8);
        Check.soundFault(full + "score c 1;", 5, full.length() + 8);
    }

    private static void wolvesAndRiders() {
        Edge.of("wolf N N (a mile, a NOTE; not told so already)");
        CelloBoats x = Check.with("sound 9;wolf 0 0;wolf 9 7;wolf 0 7;wolf 9 0;");
        Check.due("wolves", x.has(3), 4);
        Check.soundFault("sound 9;wolf 10 0;", 2, 13);
        Check.soundFault("sound 9;wolf 9 8;", 2, 15);
        Check.soundFault("sound 9;wolf 9 7;wolf 9 7;", 2, 24);
        Check.soundFault("sound 9;wolf 0 0;wolf 0 0;", 2, 24);

        Edge.of("rider NAME key N (a NOTE; 6 RIDERS)");
        CelloBoats y = Check.with("sound 9;rider a key 0;rider b key 7;");
        Check.due("key 0", y.rider(0), 0);
        Check.due("key 7", y.rider(1), 7);
        Check.soundFault("sound 9;rider a key 8;", 2, 20);
        String six = sixOf("rider ", " key 1;");
        Check.due("six", Check.with(six).has(2), 6);
        Check.soundFault(six + "rider g key 1;", 5, six.length());
    }

    private static void formulas() {
        Edge.of("carry SUM, slips SUM, swamp TEST (one each)");
        Check.soundFine("sound 9;carry 1;slips 1;swamp all;", 4);
        Check.soundFine("sound 9;swamp all;slips 1;carry 1;", 4);
        Check.soundFault("sound 9;carry 1;carry 1;", 5, 16);
        Check.soundFault("sound 9;slips 1;slips 1;", 5, 16);
        Check.soundFault("sound 9;swamp all;swamp all;", 5, 18);
        Check.soundFault("sound 9;carry all;", 1, 14);
        Check.soundFault("sound 9;swamp 1;", 1, 15);

        Edge.of("Without: carry is 1, slips is tight, swamp is never.");
        CelloBoats x = Check.with("sound 9;boat a at 0 tight 42 rosin 3;score a 7;");
        Check.due("carry", x.carry(0, 0), 1);
        Check.due("carry 7", x.carry(0, 7), 1);
        x.hours(8);
        Check.due("mile", x.boat(0, 0), 8);
        Check.due("tight", x.boat(0, 1), 42);
        Check.due("sunk", x.boat(0, 3), 0);
        Check.put(x, "sound 9;boat a at 0 tight 42 rosin 3;score a 7;carry 2;slips 5;swamp all;");
        x.sound();
        Check.put(x, "sound 9;boat a at 0 tight 42 rosin 3;score a 7;");
        x.sound();
        Check.due("carry behind another sound", x.carry(0, 0), 1);
        x.hours(1);
        Check.due("tight behind another sound", x.boat(0, 1), 42);
        Check.due("sunk behind another sound", x.boat(0, 3), 0);
    }

    private static void windAndSquall() {
        Edge.of("wind N (0 .. 9), squall N (0 .. 100): the last one of each counts (0, 0 without)");
        Check.soundFine("sound 9;wind 0;squall 0;", 3);
        Check.soundFine("sound 9;wind 9;squall 100;", 3);
        Check.soundFault("sound 9;wind 10;", 2, 13);
        Check.soundFault("sound 9;squall 101;", 2, 15);
        String boat = "boat a at 0 tight 1 rosin 1;carry wind;";
        Check.due("wind without", Check.with("sound 9;" + boat).carry(0, 0), 0);
        Check.due("wind 9", Check.with("sound 9;wind 9;" + boat).carry(0, 0), 9);
        Check.due("the last wind", Check.with("sound 9;wind 9;wind 2;" + boat + "wind 5;").carry(0, 0), 5);
        Check.due("the last wind 0", Check.with("sound 9;wind 9;wind 0;" + boat).carry(0, 0), 0);
        CelloBoats calm = Check.with("sound 9;");
        for (int k = 0; k < 9; k++) {
            Check.due("squall without", calm.chance(100), 0);
        }
        Check.due("squall 100", Check.with("sound 9;squall 100;").chance(100), 100);
        Check.due("the last squall", Check.with("sound 9;squall 0;squall 100;").chance(100), 100);
        Check.due("the last squall 0", Check.with("sound 9;squall 100;squall 0;").chance(100), 0);
    }

    private static void swamps(String test, boolean due) {
        CelloBoats x = Check.with("sound 9;boat a at 4 tight 7 rosin 3;score a 2;carry 3;wind 6;swamp " + test + ";");
        x.hours(1);
        Check.due("swamp " + test, x.boat(0, 3), due ? 1 : 0);
    }

    private static void grammar() {
        Edge.of("TEST: BOTH { or BOTH }. BOTH: FACT { and FACT }.");
        swamps("all or all and not all", true);
        swamps("[all or all] and not all", false);
        swamps("not all and not all or all", true);
        swamps("not all or not all or all", true);
        swamps("all and all and not all", false);

        Edge.of("FACT: not FACT; [ TEST ] ; all; SUM SIGN SUM, SIGN < or > or = .");
        swamps("not all", false);
        swamps("not not all", true);
        swamps("not all or all", true);
        swamps("not [all or all]", false);
        swamps("1<2", true);
        swamps("2<2", false);
        swamps("2>1", true);
        swamps("2>2", false);
        swamps("2=2", true);
        swamps("1=2", false);
        swamps("2=1", false);
        Check.soundFault("sound 9;swamp 1<=2;", 1, 16);
        Check.soundFault("sound 9;swamp 1!2;", 1, 15);
        Check.soundFault("sound 9;swamp [];", 1, 15);

        Edge.of("N (1 to 4 digits); note; tight; rosin; mile; wind;");
        swamps("9999>9998 and 0=0000 and 0009=9", true);
        swamps("note=2 and tight=7 and rosin=3 and mile=7 and wind=6", true);
        Check.soundFine("sound 9;carry 9999;", 2);
        Check.soundFault("sound 9;carry 10000;", 1, 18);
        Check.soundFault("sound 9;carry 00001;", 1, 18);

        Edge.of("in swamp: went.");
        swamps("went=3", true);
        Check.soundFault("sound 9;carry went;", 1, 14);
        Check.soundFault("sound 9;slips went;", 1, 14);
        Check.soundFault("sound 9;swamp number=1;", 1, 14);
        Check.soundFault("sound 9;swamp sunk=1;", 1, 14);
        Check.soundFault("sound 9;swamp hour=1;", 1, 14);
        Check.soundFault("sound 9;swamp score 1=1;", 1, 14);
    }

    private static void sum(String sum, long want) {
        CelloBoats x = Check.with("sound 9;boat a at 1 tight 7 rosin 3;carry " + sum + ";");
        Check.due("carry " + sum, x.carry(0, 2), want);
    }

    private static void arithmetic() {
        Edge.of("All from the left on;");
        sum("9-3-4", 2);
        sum("9-3+4-5", 5);
        sum("8/4/2", 1);
        sum("8/4*2", 4);
        sum("9-2*3", 3);
        sum("9-(2+3)", 4);
        sum("7-6/3+1", 6);

        Edge.of("/ gives the greatest whole number not above, by 0 it gives 0;");
        sum("7/2", 3);
        sum("6/2", 3);
        sum("(0-7)/2", -4);
        sum("(0-6)/2", -3);
        sum("7/(0-2)", -4);
        sum("(0-7)/(0-2)", 3);
        sum("(0-1)/9999", -1);
        sum("1/(0-9999)", -1);
        sum("0/(0-5)", 0);
        sum("7/0", 0);
        sum("(0-7)/0", 0);
        sum("5+7/(mile-1)", 5);

        Edge.of("each sum, difference, product above 10 to the 6 is that, below -10 to the 6 likewise.");
        sum("(1000*1000-9999*100)/25", 4);
        sum("(1001*1000-9999*100)/25", 4);
        sum("(1000*1000+9999-9999*100)/25", 4);
        sum("((0-1000)*1000+9999*100)/25", -4);
        sum("((0-1001)*1000+9999*100)/25", -4);
        sum("((0-1000)*1000-9999+9999*100)/25", -4);
        sum("(0-1000*1000-9999+9999*100)/25", -4);
        sum("(9999-(0-1000*1000)-9999*100)/25", 4);
        sum("1000*1000*(1000*1000)/9999/25", 4);
        sum("(0-1000*1000)*(1000*1000)/9999/25", -5);
        sum("(0-1000*1000)*(0-1000*1000)/9999/25", 4);
        // by one: 999,999 is so, 1,000,000 is so, 1,000,001 = 101 * 9901 is 1,000,000
        sum("999*1001-9999*100-95", 4);
        sum("1000*1000-9999*100-95", 5);
        sum("101*9901-9999*100-95", 5);
        sum("1000*1000+1-9999*100-95", 5);
        sum("1-(0-1000*1000)-9999*100-95", 5);
        sum("1000*1000+1-1-9999*100-95", 4);
        sum("(0-999)*1001+9999*100+95", -4);
        sum("(0-1000)*1000+9999*100+95", -5);
        sum("(0-101)*9901+9999*100+95", -5);
        sum("(0-1000)*1000-1+9999*100+95", -5);
        sum("(0-1000)*1000+(0-1)+9999*100+95", -5);
        sum("(0-1000)*1000-1+1+9999*100+95", -4);
    }

    private static void names() {
        Edge.of("NAMES: 1 to 6 letters, no OWN WORD, unlike ones (of all sorts), told ahead of where they are asked.");
        Check.soundFine("sound 9;boat a at 0 tight 1 rosin 1;rider z key 1;", 3);
        Check.soundFine("sound 9;boat abcdef at 0 tight 1 rosin 1;rider uvwxyz key 1;score abcdef 1;", 4);
        Check.soundFault("sound 9;boat abcdefg at 0 tight 1 rosin 1;", 1, 19);
        Check.soundFault("sound 9;boat 1 at 0 tight 1 rosin 1;", 1, 13);
        Check.soundFine(BOAT + "boat bb at 0 tight 1 rosin 1;rider bbb key 1;", 4);
        Check.soundFault(BOAT + "boat b at 0 tight 1 rosin 1;", 3, BOAT.length() + 5);
        Check.soundFault(BOAT + "rider b key 1;", 3, BOAT.length() + 6);
        Check.soundFault("sound 9;rider b key 1;boat b at 0 tight 1 rosin 1;", 3, 27);
        Check.soundFault("sound 9;rider b key 1;rider b key 1;", 3, 28);
        Check.soundFault("sound 9;score b 1;boat b at 0 tight 1 rosin 1;", 3, 14);

        Edge.of("OWN WORDS: sound, boat, at, tight, rosin, score, wolf, rider, key, carry, slips, swamp, wind, squall, "
            + "note, mile, went, number, sunk, hour, or, and, not, all, min, max.");
        String words = "sound boat at tight rosin score wolf rider key carry slips swamp wind squall "
            + "note mile went number sunk hour or and not all min max";
        for (String own : words.split(" ")) {
            Check.soundFault("sound 9;boat " + own + " at 0 tight 1 rosin 1;", 1, 13);
            Check.soundFault("sound 9;rider " + own + " key 1;", 1, 14);
            Check.soundFault("sound 9;score " + own + " 1;", 1, 14);
            if (own.length() < 6) {
                Check.soundFine("sound 9;rider " + own + "s key 1;", 2);
            }
            if (!own.equals("at")) {
                Check.soundFine("sound 9;rider " + own.substring(1) + "q key 1;", 2);
            }
        }
        for (String free : "first last often total most least test sum part fact".split(" ")) {
            Check.soundFine("sound 9;boat " + free + " at 0 tight 1 rosin 1;score " + free + " 1;", 3);
        }
    }

    private static void blanks() {
        Edge.of("Blanks (10, 32) are where one likes");
        for (int b = 0; b < 256; b++) {
            if (b == 10 || b == 32) {
                Check.soundFine((char) b + "sound" + (char) b + "9" + (char) b + ";" + (char) b, 1);
            } else {
                Check.soundFault("sound 9;" + (char) b, 1, 8);
            }
        }
        Check.soundFine("\n\n  sound \n 9 ; boat b at\n0 tight 1 rosin 1 ;\n carry ( 1 ) + min ( 2 , 3 ) ;  ", 3);
        Check.soundFine("sound 9;swamp[1<2]and[not[all]]or(1)=min(2,3)*4;", 2);

        Edge.of("(words and numbers side by side need one)");
        Check.soundFault("sound9;", 1, 5);
        Check.soundFault("soundboat 9;", 1, 0);
        Check.soundFault("sound 9;boat b at0 tight 1 rosin 1;", 1, 17);
        Check.soundFault("sound 9;boat b at 0tight 1 rosin 1;", 1, 19);
        Check.soundFault("sound 9;swamp 1<2or all;", 1, 17);
        Check.soundFault("sound 9;swamp not1<2;", 1, 17);
        Check.soundFault("sound 9;wolf 12;", 2, 13);
        Check.soundFault("sound 60;wolf 12;", 1, 16);
    }

    private static void faultOne() {
        Edge.of("1 the first byte with which no such text goes on (words and numbers whole, at their first byte;");
        Check.soundFault("soun 9;", 1, 0);
        Check.soundFault("sounds 9;", 1, 0);
        Check.soundFault("SOUND 9;", 1, 0);
        Check.soundFault("sound x;", 1, 6);
        Check.soundFault("sound 9 5;", 1, 8);
        Check.soundFault("sound 9 x;", 1, 8);
        Check.soundFault("sound 9,", 1, 7);
        Check.soundFault("sound 9;;", 1, 8);
        Check.soundFault("sound 9;boat b 5", 1, 15);
        Check.soundFault("sound 9;boat b att 5", 1, 15);
        Check.soundFault("sound 9;boat b at tight", 1, 18);
        Check.soundFault("sound 9;boat b at 1 12345", 1, 20);
        Check.soundFault("sound 9;boat b at 1 abcdefgh", 1, 20);
        Check.soundFault("sound 9;abcdefgh", 1, 8);
        Check.soundFault("sound 9;squalls 5;", 1, 8);
        Check.soundFault("sound 9;squal 5;", 1, 8);
        Check.soundFault("sound 9;winds 5;", 1, 8);
        Check.soundFault("sound 9;12345", 1, 8);
        Check.soundFault("sound 9;carry 1 23456;", 1, 16);
        Check.soundFault("sound 9;carry 1 abcdefgh;", 1, 16);
        Check.soundFault("sound 9;carry abcdefgh;", 1, 14);
        Check.soundFault("sound 9;carry ();", 1, 15);
        Check.soundFault("sound 9;carry [1];", 1, 14);
        Check.soundFault("sound 9;carry 1+;", 1, 16);
        Check.soundFault("sound 9;carry +1;", 1, 14);
        Check.soundFault("sound 9;carry min 1,2);", 1, 18);
        Check.soundFault("sound 9;carry max 1;", 1, 18);
        Check.soundFault("sound 9;carry min+1;", 1, 17);
        Check.soundFault("sound 9;carry max;", 1, 17);
        Check.soundFault("sound 9;carry min(max,2);", 1, 21);
        Check.soundFault("sound 9;carry min(1 2);", 1, 20);
        Check.soundFault("sound 9;carry max(1,2,3);", 1, 21);
        Check.soundFault("sound 9;carry (1,2);", 1, 16);
        Check.soundFault("sound 9;swamp [all);", 1, 18);
        Check.soundFault("sound 9;swamp (all);", 1, 15);
        Check.soundFault("sound 9;swamp all<1;", 1, 17);
        Check.soundFault("sound 9;swamp 1<not 2;", 1, 16);

        Edge.of("where a NAME is asked, an OWN WORD so, a 7th letter at itself;");
        Check.soundFault("sound 9;boat boat", 1, 13);
        Check.soundFault("sound 9;rider number", 1, 14);
        Check.soundFault("sound 9;boat abcdefg", 1, 19);
        Check.soundFault("sound 9;boat abcdefghijk", 1, 19);
        Check.soundFault("sound 9;rider squalls", 1, 20);
        Check.soundFault("sound 9;score abcdefg", 1, 20);
        Check.soundFault("sound 9;boat abcdef7", 1, 19);

        Edge.of("where a number is asked, a 5th digit at itself;");
        Check.soundFault("sound 00009;", 1, 10);
        Check.soundFault("sound 123456789;", 1, 10);
        Check.soundFault("sound 9;wolf 00001 1;", 1, 17);
        Check.soundFault("sound 9;wolf 1 00001;", 1, 19);
        Check.soundFault("sound 9;wind 00001;", 1, 17);
        Check.soundFault("sound 9;carry 1+00001;", 1, 20);
        Check.soundFine("sound 0009;", 1);
    }

    /** Cut behind each word, number and sign of a text, with and without a blank behind that. */
    private static void faultOneAtTheEnd() {
        Edge.of("at the text's length, if it ends too soon);");
        String text = "sound 9 ; boat b at 0 tight 1 rosin 1 ; score b 3 ; wolf 1 1 ; rider r key 3 ; wind 1 ; squall 5 ; "
            + "carry ( 1 + 2 ) * min ( 3 , note ) ; slips max ( 1 , tight - 1 ) / 2 ; swamp not [ all and 1 < 2 ] or went = 3 ;";
        int statements = 0;
        for (int at = 0; at < text.length(); at++) {
            boolean atEnd = at + 1 == text.length() || text.charAt(at + 1) == ' ';
            if (!atEnd || text.charAt(at) == ' ') {
                continue;
            }
            String cut = text.substring(0, at + 1);
            if (text.charAt(at) == ';') {
                statements++;
                Check.soundFine(cut, statements);
                Check.soundFine(cut + "\n", statements);
            } else {
                Check.soundFault(cut, 1, cut.length());
                Check.soundFault(cut + " \n ", 1, cut.length() + 3);
            }
        }
        Check.due("statements", statements, 10);
    }

    private static void otherFaults() {
        Edge.of("FAULTS, the first along the text:");
        Check.soundFault("sound 4;bogus", 2, 6);
        Check.soundFault("sound 9;bogus;wind 10;", 1, 8);
        Check.soundFault("sound 9;wind 10;bogus;", 2, 13);
        Check.soundFault("sound 9;score b 8;wind 10;", 3, 14);
        Check.soundFault("sound 9;carry (((((((1;carry 2", 4, 20);
        Check.soundFault("sound 9;carry 1;carry (((((((1;", 5, 16);
        Check.soundFault("sound 9;boat b at 10 bogus", 2, 18);

        Edge.of("2 a number that can't be (of a wolf told already the NOTE), at it;");
        Check.soundFault("sound  61;", 2, 7);
        Check.soundFault("sound 9;boat b at \n10 ", 2, 19);
        Check.soundFault("sound 9;wolf 3 4;wolf 3 5;wolf 3  4;", 2, 34);
        Check.soundFine("sound 9;wolf 3 4;wolf 4 4;wolf 3 3;", 4);

        Edge.of("3 a NAME to be given that is there already, one that is none of a BOAT, at it;");
        Check.soundFault(BOAT + "boat  b", 3, BOAT.length() + 6);
        Check.soundFault(BOAT + "rider b", 3, BOAT.length() + 6);
        Check.soundFault(BOAT + "rider r key 1;score r 1;", 3, BOAT.length() + 20);
        Check.soundFault(BOAT + "score c 1;", 3, BOAT.length() + 6);
        Check.soundFault(BOAT + "score bb 1;", 3, BOAT.length() + 6);
        Check.soundFault("sound 9;score b", 3, 14);
    }

    private static void faultFour() {
        Edge.of("4 the 7th of ( [ not that is open at once (not until its FACT ends), at it;");
        Check.soundFine("sound 9;carry ((((((1))))));", 2);
        Check.soundFault("sound 9;carry (((((((1)))))));", 4, 20);
        Check.soundFine("sound 9;slips ((((((1))))))*((((((1))))));", 2);
        Check.soundFine("sound 9;carry (((((max(1,2))))));", 2);
        Check.soundFault("sound 9;carry ((((((max(1,2)))))));", 4, 23);
        Check.soundFine("sound 9;carry min(min(min(min(min(min(1,2),3),4),5),6),min(7,min(8,9)));", 2);
        Check.soundFault("sound 9;carry min(min(min(min(min(min(min(", 4, 41);
        Check.soundFine("sound 9;swamp [[[[[[all]]]]]]and[[[[[[all]]]]]];", 2);
        Check.soundFault("sound 9;swamp [[[[[[[all]]]]]]];", 4, 20);
        Check.soundFine("sound 9;swamp not not not not not not all or not not not not not not all;", 2);
        Check.soundFault("sound 9;swamp not not not not not not not all;", 4, 38);
        Check.soundFine("sound 9;swamp not 1=1 and not 1=1 and not 1=1 and not 1=1 and not 1=1 and not 1=1 and not 1=1;", 2);
        Check.soundFine("sound 9;swamp not not not[[[all]]]and[[[[[[all]]]]]];", 2);
        Check.soundFault("sound 9;swamp not not not[[[not", 4, 28);
        Check.soundFine("sound 9;swamp not not not[[(1)=(2)]];", 2);
        Check.soundFault("sound 9;swamp not not not[[[1=(2", 4, 30);
        Check.soundFault("sound 9;swamp not not not not not not 1<(2);", 4, 40);
        // six that are open at once, with as much as can be waiting ahead of each
        swamps("1=2 or 1=1 and 1+1*min(9,1+1*min(9,1+1*min(9,1+1*min(9,1+1*min(9,1+1*min(9,2))))))=8", true);
        swamps("1=2 or 1=1 and 2-1*max(0,2-1*max(0,2-1*max(0,2-1*max(0,2-1*max(0,2-1*max(0,1))))))=1", true);
        swamps("1=2 or all and[1=2 or all and[1=2 or all and[1=2 or all and[1=2 or all and[1=2 or all and 1+2*3=7]]]]]", true);
        swamps("1=2 or all and not[1=2 or all and not[1=2 or all and not 1+2*(3-1)=5]]", false);
        // one too many that can't stand there is a FAULT 1
        Check.soundFault("sound 9;carry (((((([", 1, 20);
        Check.soundFault("sound 9;carry ((((((not", 1, 20);
        Check.soundFault("sound 9;carry ((((((1(", 1, 21);
    }

    private static void faultFive() {
        Edge.of("5 one too many of a kind (a second carry, slips, swamp, a 7th NOTE of a BOAT, too, that at the NOTE),");
        Check.soundFault("sound 9;carry 1; carry", 5, 17);
        Check.soundFault("sound 9;slips 1;wind 1;slips x", 5, 23);
        Check.soundFault("sound 9;swamp all;swamp 1", 5, 18);
        String boats = sixOf("boat ", " at 0 tight 1 rosin 1;");
        Check.soundFault(boats + " boat", 5, boats.length() + 1);
        Check.soundFault(boats + "boat boat", 5, boats.length());
        Check.soundFine(boats + "rider g key 1;", 8);
        String riders = sixOf("rider ", " key 1;");
        Check.soundFault(riders + " rider", 5, riders.length() + 1);
        Check.soundFine(riders + "boat g at 0 tight 1 rosin 1;", 8);
        String scores = BOAT + "score b 1;".repeat(6);
        Check.soundFault(scores + "score b  7", 5, scores.length() + 9);
        Check.soundFault(scores + "score b", 1, scores.length() + 7);
        Check.soundFault(scores + "score c 1", 3, scores.length() + 6);

        Edge.of("an 81st STATEMENT (whatever stands there), at its first byte.");
        String full = "sound 5;" + "wind 1;".repeat(79);
        for (String there : new String[] {"wind 1;", "boat", "sound 5;", "bogus", "12345", ";", "#", "\u00ff", "wind 10;"}) {
            Check.soundFault(full + there, 5, full.length());
            Check.soundFault(full + " \n" + there, 5, full.length() + 2);
        }
        Check.soundFine(full + " \n ", 80);
        Check.soundFault("sound 5;" + "wind 1;".repeat(78) + "bogus", 1, full.length() - 7);
    }
}
