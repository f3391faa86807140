/** Promises 1 to 5: a new object, the tape, THE SOUND and its FAULTS. */
public final class SoundTextTest {
    private static final String B = "sound 9;boat b at 0 tight 1 rosin 1;";

    public static void main(String[] args) {
        newObject();
        tape();
        statements();
        faultOne();
        blanksBetween();
        faultTwo();
        faultThree();
        faultFour();
        faultFive();
        soundStays();
        Check.finish();
    }

    private static void newObject() {
        CelloBoats x = new CelloBoats();
        for (int what = 0; what <= 9; what++) {
            Check.due("new has " + what, x.has(what), 0);
        }
        Check.due("new fault(0)", x.fault(0), 0);
        Check.due("new fault(1)", x.fault(1), -1);
        Check.due("new fault(2)", x.fault(2), -1);
        Check.due("new fault(-1)", x.fault(-1), -1);
        Check.due("new octet", x.octet(0), -1);
        Check.due("new which", x.which(), 0);
        Check.due("new wolf", x.wolf(0, 0), -1);
    }

    private static void tape() {
        CelloBoats x = new CelloBoats();
        for (int i = 1; i <= 80; i++) {
            Check.due("feed " + i, x.feed(0, 0, 0, 0, 0), 20 * i);
        }
        Check.due("feed 81", x.feed(0, 0, 0, 0, 0), -1);
        Check.due("end 1601", x.end(1601), false);
        Check.due("end -1", x.end(-1), false);
        Check.due("end 1600", x.end(1600), true);
        Check.due("end 1581", x.end(1581), true);
        Check.due("feed beyond", x.feed(0, 0, 0, 0, 0), -1);
        Check.due("end 1582", x.end(1582), false);
        Check.due("end 1580", x.end(1580), true);
        Check.due("feed to the end", x.feed(0, 0, 0, 0, 0), 1600);
        Check.due("status 0", x.status(0), 5);
        x.sound();
        Check.due("the tape goes", x.feed(0, 0, 0, 0, 0), 20);
        Check.due("end 0", x.end(0), true);
        // the highest byte comes first, and high bytes are not below 0
        x.feed(0x736f756e, 0x6420393b, 0xff000000, 0, 0);
        x.end(9);
        Check.due("byte 255", x.sound(), -1);
        Check.due("byte 255 is a fault", x.fault(0), 1);
        Check.due("byte 255 at 8", x.fault(1), 8);
    }

    private static void statements() {
        Check.soundFine("sound 5;", 1);
        Check.soundFine("sound 60;", 1);
        Check.soundFine("sound 0060;", 1);
        Check.soundFine("\n sound\n5 ;\n ", 1);
        Check.soundFine("sound 5;wind 0;wind 9;squall 0;squall 100;", 5);
        Check.soundFine(B + "boat first at 9 tight 99 rosin 99;score b 7;wolf 9 7;rider last key 7;", 6);
        Check.soundFine("sound 5;carry note+tight-rosin*mile/wind;slips min(1,2)+max((3),4);swamp went<0;", 4);
        Check.soundFine("sound 5;swamp not[all or all and 1=2]or 1+2*3>4-5/6;", 2);
        StringBuilder eighty = new StringBuilder("sound 5;");
        for (int i = 0; i < 79; i++) {
            eighty.append("wind 1;");
        }
        Check.soundFine(eighty + " \n", 80);
        Check.soundFault(eighty + "wind 1;", 5, eighty.length());
        Check.soundFault(eighty + " #", 5, eighty.length() + 1);
        Check.soundFault(eighty + "12345", 5, eighty.length());
    }

    private static void faultOne() {
        Check.soundFault("", 1, 0);
        Check.soundFault("  \n", 1, 3);
        Check.soundFault(";", 1, 0);
        Check.soundFault(" wind 1;", 1, 1);
        Check.soundFault("soun", 1, 0);
        Check.soundFault("sound", 1, 5);
        Check.soundFault("sounds 5;", 1, 0);
        Check.soundFault("Sound 5;", 1, 0);
        Check.soundFault("sound 5", 1, 7);
        Check.soundFault("sound 5  ", 1, 9);
        Check.soundFault("sound x;", 1, 6);
        Check.soundFault("sound 00005;", 1, 10);
        Check.soundFault("sound 99999;", 1, 10);
        Check.soundFault("sound 5 5;", 1, 8);
        Check.soundFault("sound 5;;", 1, 8);
        Check.soundFault("sound 5;sound 5;", 1, 8);
        Check.soundFault("sound 5;boats", 1, 8);
        Check.soundFault("sound 5;\tboat", 1, 8);
        Check.soundFault("sound 5;boat tight", 1, 13);
        for (String own : Model.OWN) {
            Check.soundFault("sound 5;boat " + own, 1, 13);
            Check.soundFault("sound 5;rider " + own, 1, 14);
        }
        for (String free : new String[] {"first", "last", "often", "total", "most", "least", "test", "none"}) {
            Check.soundFine("sound 5;rider " + free + " key 1;", 2);
        }
        Check.soundFault("sound 5;boat 5", 1, 13);
        Check.soundFault("sound 5;boat abcdef", 1, 19);
        Check.soundFault("sound 5;boat abcdefghi at", 1, 19);
        Check.soundFault("sound 5;boat squalls", 1, 19);
        Check.soundFault("sound 5;boat Ab", 1, 13);
        Check.soundFault("sound 5;boat aB", 1, 14);
        Check.soundFault("sound 5;boat a tight", 1, 15);
        Check.soundFault("sound 5;score abcdefg", 1, 20);
        Check.soundFault("sound 5;score key", 1, 14);
        Check.soundFault(B + "score b b", 1, 44);
        Check.soundFault("sound 5;rider r at", 1, 16);
        Check.soundFault("sound 5;carry;", 1, 13);
        Check.soundFault("sound 5;carry went;", 1, 14);
        Check.soundFault("sound 5;slips went;", 1, 14);
        Check.soundFault("sound 5;carry hour;", 1, 14);
        Check.soundFault("sound 5;carry number;", 1, 14);
        Check.soundFault("sound 5;carry carry 1;", 1, 14);
        Check.soundFault("sound 5;carry 1<2;", 1, 15);
        Check.soundFault("sound 5;carry -1;", 1, 14);
        Check.soundFault("sound 5;carry 12345;", 1, 18);
        Check.soundFault("sound 5;carry 1 12345;", 1, 16);
        Check.soundFault("sound 5;carry min 1;", 1, 18);
        Check.soundFault("sound 5;carry min(1;", 1, 19);
        Check.soundFault("sound 5;carry min(1,2,3)", 1, 21);
        Check.soundFault("sound 5;carry (1];", 1, 16);
        Check.soundFault("sound 5;swamp 1;", 1, 15);
        Check.soundFault("sound 5;swamp (1<2);", 1, 16);
        Check.soundFault("sound 5;swamp [1<2);", 1, 18);
        Check.soundFault("sound 5;swamp all=1;", 1, 17);
        Check.soundFault("sound 5;swamp 1<2<3;", 1, 17);
        Check.soundFault("sound 5;swamp 1<=2;", 1, 16);
        Check.soundFault("sound 5;swamp all and;", 1, 21);
        Check.soundFault("sound 5;swamp sunk=1;", 1, 14);
    }

    private static void blanksBetween() {
        Check.soundFault("sound5;", 1, 5);
        Check.soundFault("sound99;", 1, 5);
        Check.soundFault("sound12345;", 1, 5);
        Check.soundFault("sound 9;boat b at 0tight 1 rosin 1;", 1, 19);
        Check.soundFault("sound 9;boat b at 10tight 1 rosin 1;", 2, 18);
        Check.soundFault(B + "score b1;", 1, 43);
        Check.soundFault(B + "score c1;", 3, 42);
        Check.soundFault("sound 9;swamp 1<2and all;", 1, 17);
        Check.soundFault("sound 9;swamp not1<2;", 1, 17);
        Check.soundFault("sound 9;swamp allor all;", 1, 14);
        Check.soundFine("sound 9;swamp[1<2]and[all]or 1>2;carry(1)*min(2,3);", 3);
    }

    private static void faultTwo() {
        Check.soundFault("sound 4;", 2, 6);
        Check.soundFault("sound 61;", 2, 6);
        Check.soundFault("sound 9;boat b at 10", 2, 18);
        Check.soundFault("sound 9;boat b at 0 tight 100", 2, 26);
        Check.soundFault("sound 9;boat b at 0 tight 0 rosin 100", 2, 34);
        Check.soundFault(B + "score b 8", 2, 44);
        Check.soundFault("sound 9;wolf 10 0", 2, 13);
        Check.soundFault("sound 9;wolf 9 8", 2, 15);
        Check.soundFault("sound 9;wolf 9 7;wolf 8 7;wolf 9 6;wolf 9 7", 2, 42);
        Check.soundFault("sound 9;rider r key 8", 2, 20);
        Check.soundFault("sound 9;wind 10", 2, 13);
        Check.soundFault("sound 9;squall 101", 2, 15);
    }

    private static void faultThree() {
        Check.soundFault(B + "boat b", 3, 41);
        Check.soundFault(B + "rider b", 3, 42);
        Check.soundFault(B + "rider r key 1;boat r", 3, 55);
        Check.soundFault(B + "rider r key 1;rider r", 3, 56);
        Check.soundFault(B + "rider r key 1;score r 1", 3, 56);
        Check.soundFault(B + "score bb 1", 3, 42);
        Check.soundFault("sound 9;score b 1;boat b at 0 tight 1 rosin 1;", 3, 14);
        Check.soundFine(B + "boat bb at 0 tight 1 rosin 1;boat ab at 0 tight 1 rosin 1;score bb 1;", 5);
    }

    private static void faultFour() {
        Check.soundFine("sound 9;carry ((((((1))))));", 2);
        Check.soundFault("sound 9;carry (((((((1)))))));", 4, 20);
        Check.soundFine("sound 9;carry ((((((1))))))+((((((1))))));", 2);
        Check.soundFault("sound 9;carry ((((((min(1,2)))))))", 4, 23);
        Check.soundFine("sound 9;carry (((((min(1,2))))));", 2);
        Check.soundFault("sound 9;carry ((((((min 1", 1, 24);
        Check.soundFine("sound 9;swamp not not not not not not all and not not not not not not all;", 2);
        Check.soundFault("sound 9;swamp not not not not not not not all;", 4, 38);
        Check.soundFault("sound 9;swamp [[[[[[[", 4, 20);
        Check.soundFine("sound 9;swamp [[[not not not all]]]and[not[not[not 1<2]]];", 2);
        Check.soundFault("sound 9;swamp not[not[not[(", 4, 26);
        Check.soundFault("sound 9;swamp not[not[not[1<(1)]]];", 4, 28);
        Check.soundFine("sound 9;swamp not[not[not 1<(1)]];", 2);
    }

    private static void faultFive() {
        StringBuilder six = new StringBuilder("sound 9;");
        for (char c = 'a'; c < 'g'; c++) {
            six.append("boat ").append(c).append(" at 0 tight 1 rosin 1;");
        }
        Check.soundFine(six.toString(), 7);
        Check.soundFault(six + "boat", 5, six.length());
        Check.soundFault(six + " boat a", 5, six.length() + 1);
        Check.soundFault(six + "boats", 1, six.length());
        StringBuilder riders = new StringBuilder("sound 9;");
        for (char c = 'a'; c < 'g'; c++) {
            riders.append("rider ").append(c).append(" key 1;");
        }
        Check.soundFine(riders.toString(), 7);
        Check.soundFault(riders + "rider g key 1;", 5, riders.length());
        Check.soundFault("sound 9;carry 1;carry 2;", 5, 16);
        Check.soundFault("sound 9;slips 1;carry 1;slips 2;", 5, 24);
        Check.soundFault("sound 9;swamp all;swamp", 5, 18);
        String scores = B + "score b 1;score b 1;score b 1;score b 1;score b 1;score b 1;";
        Check.soundFine(scores, 8);
        Check.soundFault(scores + "score b 0;", 5, scores.length() + 8);
        Check.soundFault(scores + "score b 8;", 2, scores.length() + 8);
        Check.soundFault(scores + "score b ;", 1, scores.length() + 8);
        Check.soundFault(scores + "score b 12345;", 1, scores.length() + 12);
    }

    private static void soundStays() {
        CelloBoats x = Check.with(B + "score b 1;rider r key 1;wolf 3 3;");
        x.seed(77);
        x.hours(2);
        Check.see(x, 0, 1);
        Check.put(x, "sound 10;boat c at 3 tight 3 rosin 3;swamp all");
        Check.due("fault", x.sound(), -1);
        Check.due("fault place", x.fault(1), 46);
        int[] stays = {9, 1, 1, 1, 2, 0, 0, 0, 1, 1};
        for (int what = 0; what < stays.length; what++) {
            Check.due("stays has " + what, x.has(what), stays[what]);
        }
        Check.due("stays boat mile", x.boat(0, 0), 2);
        Check.due("stays name", x.letter(0, 0, 0), 2);
        Check.put(x, B);
        Check.due("again", x.sound(), 2);
        Check.due("fault(0) again", x.fault(0), 0);
        int[] anew = {9, 1, 0, 0, 0, 0, 0, 0, 0, 0};
        for (int what = 0; what < anew.length; what++) {
            Check.due("anew has " + what, x.has(what), anew[what]);
        }
        Check.due("anew score", x.score(0, 0), -1);
        Check.due("anew wolf", x.wolf(3, 3), 0);
        Check.due("anew carry", x.carry(0, 3), 1);
        Check.due("anew undo", x.undo(), false);
        Check.due("anew place", x.boat(0, 6), 0);
    }
}
