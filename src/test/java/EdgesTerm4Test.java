/** Term IV: each boundary case of QUESTIONS and IMAGES. */
public final class EdgesTerm4Test {
    private static final String FLEET = "sound 20;boat a at 15 tight 10 rosin 4;boat b at 1 tight 20 rosin 0;boat c at 20 tight 5 rosin 7;"
        + "score a 2;score a 5;score b 7;carry note*2-tight/10-wind;wind 1;wolf 15 6;squall 100;swamp note=2;";

    public static void main(String[] args) {
        Edge.section("IV");
        kinds();
        values();
        carries();
        scores();
        faults();
        open();
        words();
        images();
        Check.finish();
    }

    private static void kinds() {
        Edge.of("first TEST, last TEST (the first, the last BOAT for which it holds), often TEST (for how many),");
        CelloBoats x = Check.with(FLEET);
        CelloBoats none = Check.with("sound 20;");
        Check.asked(x, "first all", 0);
        Check.asked(x, "last all", 2);
        Check.asked(x, "often all", 3);
        Check.asked(x, "first mile<15", 1);
        Check.asked(x, "last mile<20", 1);
        Check.asked(x, "often mile>1", 2);
        Check.asked(x, "first mile>20", -1);
        Check.asked(x, "last mile>20", -1);
        Check.asked(x, "often mile>20", 0);
        Check.asked(none, "first all", -1);
        Check.asked(none, "last all", -1);
        Check.asked(none, "often all", 0);

        Edge.of("total SUM (of all together), most SUM, least SUM (the greatest, the least of all; 0 without BOATS).");
        Check.asked(x, "total mile", 36);
        Check.asked(x, "most mile", 20);
        Check.asked(x, "least mile", 1);
        Check.asked(x, "most 0-mile", -1);
        Check.asked(x, "least 0-mile", -20);
        Check.asked(x, "least mile+5", 6);
        Check.asked(x, "total 0-mile", -36);
        Check.asked(x, "most 9-number", 9);
        Check.asked(x, "least 9+number", 9);
        Check.asked(x, "most number-9", -7);
        Check.asked(x, "least 0-number", -2);
        Check.asked(none, "total 5", 0);
        Check.asked(none, "most 5", 0);
        Check.asked(none, "most 0-5", 0);
        Check.asked(none, "least 5", 0);
    }

    private static void values() {
        Edge.of("(The BOAT's number; 1 if it is SUNK, else 0; the next NOTE of its score, -1 without one;");
        CelloBoats x = Check.with(FLEET);
        Check.asked(x, "total number*100+sunk*10", 300);
        Check.asked(x, "first number=2", 2);
        Check.asked(x, "first number=3", -1);
        Check.asked(x, "first note=2", 0);
        Check.asked(x, "last note=7", 1);
        Check.asked(x, "last note=0-1", 2);
        Check.asked(x, "often note<0", 1);
        Check.asked(x, "total hour", 0);
        x.hours(1);
        Check.asked(x, "first sunk=1", 0);
        Check.asked(x, "often sunk=1", 1);
        Check.asked(x, "often sunk=0", 2);
        Check.asked(x, "first note=5", 0);
        Check.asked(x, "total hour", 3);
        x.chance(1);
        Check.asked(x, "most wind", 1);
        Check.asked(x, "least wind", 1);
        Check.asked(x, "total tight", 35);
    }

    private static void carries() {
        Edge.of("how far the NOTE of that number would carry it now (not cut at mile 0, at the last one; 0 of a NOTE that there is not);");
        CelloBoats x = Check.with(FLEET);
        // a: note*2-2, b: note*2-3, c: note*2-1, each -9 .. 9; a has a wolf of 6
        Check.asked(x, "first carry 4=6", 0);
        Check.asked(x, "total carry 0", -6);
        Check.asked(x, "total carry 7", 27);
        Check.asked(x, "total carry 6", 18);
        Check.asked(x, "first carry 6=0", 0);
        Check.asked(x, "total carry 8", 0);
        Check.asked(x, "total carry 9999", 0);
        Check.asked(x, "total carry(0-1)", 0);
        Check.asked(x, "total carry(0-9999)", 0);
        Check.asked(x, "least carry 0", -3);
        Check.asked(x, "first carry note=11", -1);
        Check.asked(x, "last carry note=0", 2);
        CelloBoats y = Check.with("sound 20;boat a at 0 tight 0 rosin 0;boat b at 19 tight 0 rosin 0;carry note*4-10;");
        Check.asked(y, "first carry 0=0-9", 0);
        Check.asked(y, "often carry 7=9", 2);
        Check.asked(y, "often carry 4=6", 2);
        y = Check.with("sound 20;boat a at 0 tight 3 rosin 2;score a 1;carry 1;swamp all;");
        y.hours(1);
        Check.asked(y, "total carry 0", 1);
    }

    private static void scores() {
        Edge.of("the NOTE of that place of its score, -1 without.)");
        CelloBoats x = Check.with(FLEET + "score b 0;score b 1;score b 2;score b 3;score b 4;");
        Check.asked(x, "total score 0", 2 + 7 - 1);
        Check.asked(x, "total score 1", 5 + 0 - 1);
        Check.asked(x, "total score 2", -1 + 1 - 1);
        Check.asked(x, "total score 5", -1 + 4 - 1);
        Check.asked(x, "total score 6", -3);
        Check.asked(x, "total score 9999", -3);
        Check.asked(x, "total score(0-1)", -3);
        x.note(1, 5, 6);
        Check.asked(x, "most score 5", 6);
        Check.asked(x, "total score score number", -1 + 7 - 1);
    }

    private static void faults() {
        Edge.of("1 as in I (an unknown word at its first byte; what stands behind it, too);");
        CelloBoats x = Check.with(FLEET);
        Check.askFault(x, "", 1, 0);
        Check.askFault(x, " \n", 1, 2);
        Check.askFault(x, "frist all", 1, 0);
        Check.askFault(x, "firsts all", 1, 0);
        Check.askFault(x, "carry all", 1, 0);
        Check.askFault(x, "total bogus", 1, 6);
        Check.askFault(x, "total a", 1, 6);
        Check.askFault(x, "total abcdefgh", 1, 6);
        Check.askFault(x, "total numbers", 1, 6);
        Check.askFault(x, "total numberx", 1, 6);
        Check.askFault(x, "total went", 1, 6);
        Check.askFault(x, "total boat", 1, 6);
        Check.askFault(x, "total total 1", 1, 6);
        Check.askFault(x, "total all", 1, 6);
        Check.askFault(x, "often 1", 1, 7);
        Check.askFault(x, "total 1;", 1, 7);
        Check.askFault(x, "total 1 ;", 1, 8);
        Check.askFault(x, "total 1 2", 1, 8);
        Check.askFault(x, "total 1 23456", 1, 8);
        Check.askFault(x, "total 1 mile", 1, 8);
        Check.askFault(x, "total 1)", 1, 7);
        Check.askFault(x, "often all]", 1, 9);
        Check.askFault(x, "often all\u0000", 1, 9);
        Check.askFault(x, "total 12345", 1, 10);
        Check.askFault(x, "total 1+12345", 1, 12);
        Check.askFault(x, "total(", 1, 6);
        Check.askFault(x, "total carry", 1, 11);
        Check.askFault(x, "total score ", 1, 12);
        Check.askFault(x, "total carry all", 1, 12);
        Check.askFault(x, "first", 1, 5);
        Check.askFault(x, "total1", 1, 5);
        Check.askFault(x, "total score1", 1, 11);
        Check.askFault(x, "Total 1", 1, 0);
        Check.asked(x, "\ntotal\n1\n", 3);
    }

    private static void open() {
        Edge.of("4 the 7th of ( [ not carry score that is open at once (not until its FACT, carry, score until its PART ends), at it.");
        CelloBoats x = Check.with(FLEET);
        Check.asked(x, "total((((((1))))))", 3);
        Check.askFault(x, "total(((((((1)))))))", 4, 11);
        Check.asked(x, "often[[[[[[all]]]]]]", 3);
        Check.askFault(x, "often[[[[[[[all]]]]]]]", 4, 11);
        Check.asked(x, "often not not not not not not all", 3);
        Check.askFault(x, "often not not not not not not not all", 4, 30);
        // 0 of the NOTE 9, then by turns below 0 and 0
        Check.asked(x, "most carry carry carry carry carry carry 9", -1);
        Check.askFault(x, "most carry carry carry carry carry carry carry 9", 4, 41);
        Check.asked(x, "most score score score score score score 9", -1);
        Check.askFault(x, "most score score score score score score score 9", 4, 41);
        Check.asked(x, "most carry 9+carry 9+carry 9+score 9+score 9+score 9+score 9+carry 9", -4);
        Check.asked(x, "most carry 9*carry 9*carry 9*carry 9*carry 9*carry 9*carry 9", 0);
        Check.asked(x, "most carry(carry(carry(9)))", 0);
        Check.askFault(x, "most carry(carry(carry(score", 4, 23);
        Check.asked(x, "often not not not carry(carry 9)=1", 3);
        Check.askFault(x, "often not not not carry(carry(carry 9", 4, 29);
        Check.asked(x, "often not carry 9=1 and not carry 9=1 and not carry 9=1 and not carry 9=1", 3);
        Check.askFault(x, "often not not not not not carry carry 1", 4, 32);
        Check.askFault(x, "most min(max(min(max(min(max(min(1,2", 4, 32);
    }

    private static void words() {
        Edge.of("PART: N; number; mile; tight; rosin; sunk; hour; note; wind; carry PART; score PART; ( SUM ) ; min ( SUM , SUM ) ; max ( SUM , SUM ) .");
        CelloBoats x = Check.with("sound 20;boat a at 3 tight 10 rosin 4;score a 2;score a 5;carry note;wind 6;");
        String[] parts = {"0", "9999", "number", "mile", "tight", "rosin", "sunk", "hour", "note", "wind", "carry 3", "score 1",
            "(2)", "min(2,3)", "max(2,3)", "carry carry(1+1)", "score carry 1"};
        int[] due = {0, 9999, 0, 3, 10, 4, 0, 0, 2, 6, 3, 5, 2, 2, 3, 2, 5};
        for (int k = 0; k < parts.length; k++) {
            Check.asked(x, "total " + parts[k], due[k]);
            Check.asked(x, "first " + parts[k] + "=" + due[k], 0);
            Check.asked(x, "often " + due[k] + ">" + parts[k], 0);
        }
        // carry and score take a PART, no SUM, no PRODUCT
        Check.asked(x, "total carry 3+1", 4);
        Check.asked(x, "total carry 3*2", 6);
        Check.asked(x, "total score 0+1", 3);
    }

    private static void dueImage(String what, CelloBoats x, int... ahead) {
        byte[] due = Check.image(ahead);
        Check.due(what, x.image(), due.length);
        for (int k = 0; k < due.length; k++) {
            Check.due(what + ", byte " + k, x.octet(k), due[k] & 255);
        }
        Check.due(what + ", behind it", x.octet(due.length), -1);
    }

    private static void images() {
        Edge.of("AN IMAGE: HOUR (two bytes, the higher first); for each BOAT its mile, how tight, rosin, 1 if SUNK, else 0, "
            + "the place of the next NOTE, then the NOTES of its score;");
        CelloBoats none = Check.with("sound 20;");
        dueImage("hour 0", none, 0, 0);
        none.hours(100);
        none.hours(100);
        none.hours(55);
        dueImage("hour 255", none, 0, 255);
        none.hours(1);
        dueImage("hour 256", none, 1, 0);
        for (int k = 0; k < 7; k++) {
            none.hours(100);
        }
        none.hours(43);
        dueImage("hour 999", none, 3, 231);
        CelloBoats x = Check.with("sound 60;boat a at 60 tight 99 rosin 99;boat b at 3 tight 0 rosin 1;score b 7;score b 0;score b 1;"
            + "score b 2;score b 3;score b 4;swamp note=0;slips tight+9;");
        dueImage("at first", x, 0, 0, 60, 99, 99, 0, 0, 3, 0, 1, 0, 0, 7, 0, 1, 2, 3, 4);
        x.hours(2);
        dueImage("sunk", x, 0, 2, 60, 99, 99, 0, 0, 5, 18, 0, 1, 2, 7, 0, 1, 2, 3, 4);

        Edge.of("last a byte: all ahead from 193 on, c = (3 c + it) mod 251.");
        Check.due("of 0, 0", Check.with("sound 20;").image(), 3);
        CelloBoats y = Check.with("sound 20;");
        y.image();
        Check.due("193, 77, 231", y.octet(2), 231);
        // (3 * 193 + 0) mod 251 = 77, 3 * 77 + 20 = 251: nothing is left
        y.hours(20);
        y.image();
        Check.due("251 is 0", y.octet(2), 0);
        y.undo();
        y.hours(19);
        y.image();
        Check.due("250 is the greatest", y.octet(2), 250);
    }
}
