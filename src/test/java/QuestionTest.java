/** Promise 33 and what promise 5 tells of it: QUESTIONS. */
public final class QuestionTest {
    private static CelloBoats fleet() {
        return Check.with("sound 20;boat a at 3 tight 10 rosin 4;boat b at 19 tight 20 rosin 0;boat c at 0 tight 5 rosin 7;"
            + "score a 2;score a 5;score b 7;carry note*2-tight/10-wind;wind 1;wolf 3 6;squall 50;swamp note=2;");
    }

    public static void main(String[] args) {
        withoutSound();
        words();
        values();
        carryAndScore();
        sums();
        withoutBoats();
        faults();
        open();
        Check.finish();
    }

    private static void withoutSound() {
        CelloBoats x = new CelloBoats();
        Check.put(x, "sound 4;");
        x.sound();
        Check.due("without a sound", Check.ask(x, "??"), CelloBoats.NOTHING);
        Check.due("fault stays", x.fault(0), 2);
        Check.due("place stays", x.fault(1), 6);
        Check.due("the tape goes", x.feed(0, 0, 0, 0, 0), 20);
    }

    private static void words() {
        CelloBoats x = fleet();
        Check.asked(x, "first mile>2", 0);
        Check.asked(x, "first mile>3", 1);
        Check.asked(x, "first mile>19", -1);
        Check.asked(x, "last mile<19", 2);
        Check.asked(x, "last rosin=0", 1);
        Check.asked(x, "last not all", -1);
        Check.asked(x, "often all", 3);
        Check.asked(x, "often not all", 0);
        Check.asked(x, "often mile>0 and tight<20 or rosin=7", 2);
        Check.asked(x, "total mile", 22);
        Check.asked(x, "most mile", 19);
        Check.asked(x, "least mile-5", -5);
        Check.asked(x, "most 0-mile-1", -1);
        Check.asked(x, "least mile+7", 7);
        Check.asked(x, " \nfirst[mile>2]\n", 0);
        Check.asked(x, "total(1)", 3);
        Check.asked(x, "total 9999*9999", 3000000);
        Check.asked(x, "total 0-9999*9999", -3000000);
        Check.due("the tape goes", x.feed(0, 0, 0, 0, 0), 20);
    }

    private static void values() {
        CelloBoats x = fleet();
        Check.asked(x, "total number*number", 5);
        Check.asked(x, "total tight", 35);
        Check.asked(x, "total rosin", 11);
        Check.asked(x, "total sunk", 0);
        Check.asked(x, "total wind", 3);
        Check.asked(x, "total hour", 0);
        Check.asked(x, "total note", 8);
        Check.asked(x, "first note=0-1", 2);
        x.hours(1);
        Check.asked(x, "total sunk*10+hour", 13);
        Check.asked(x, "first sunk=1", 0);
        Check.asked(x, "first note=5", 0);
        Check.asked(x, "first note=7 and mile=20", 1);
        x.seed(3);
        x.chance(3);
        Check.asked(x, "most wind", 1);
    }

    private static void carryAndScore() {
        CelloBoats x = fleet();
        // a: note*2-2, b: note*2-3, c: note*2-1
        Check.asked(x, "total carry 1", 0);
        Check.asked(x, "least carry 0", -3);
        Check.asked(x, "most carry 7", 9);
        Check.asked(x, "first carry 6=0", 0);
        Check.asked(x, "total carry 6", 18);
        Check.asked(x, "total carry 8", 0);
        Check.asked(x, "total carry(0-1)", 0);
        Check.asked(x, "total carry note", 11);
        Check.asked(x, "total carry carry 2", 6);
        Check.asked(x, "total carry 2*2", 12);
        Check.asked(x, "total score 0", 8);
        Check.asked(x, "total score 1", 3);
        Check.asked(x, "total score 6", -3);
        Check.asked(x, "total score(0-1)", -3);
        Check.asked(x, "total score number", 0);
        Check.asked(x, "total carry score 0", 11);
        Check.asked(x, "total score carry 1", 0);
        Check.asked(x, "total score score 1 - note*0", -3);
        // the values of the BOAT are still its own behind a carry
        Check.asked(x, "total carry 3*0+note", 8);
    }

    private static void sums() {
        CelloBoats x = fleet();
        Check.asked(x, "total 7/2", 9);
        Check.asked(x, "total (0-7)/2", -12);
        Check.asked(x, "total mile/rosin", 0);
        Check.asked(x, "total min(mile,rosin)", 3);
        Check.asked(x, "total max(mile,rosin)", 30);
        Check.asked(x, "total 2-3-4", -15);
        Check.asked(x, "total 2+3*4", 42);
        Check.asked(x, "often 1=1 or 1=2 and 1=2", 3);
        Check.asked(x, "often[1=1 or 1=2]and 1=2", 0);
        Check.asked(x, "often not 1=2 and not 2=3", 3);
        StringBuilder ones = new StringBuilder("total 1");
        for (int i = 0; i < 790; i++) {
            ones.append("+1");
        }
        for (int i = 0; i < 3; i++) {
            Check.asked(x, ones.toString(), 3 * 791);
        }
    }

    private static void withoutBoats() {
        CelloBoats x = Check.with("sound 9;");
        Check.asked(x, "first all", -1);
        Check.asked(x, "last all", -1);
        Check.asked(x, "often all", 0);
        Check.asked(x, "total 5", 0);
        Check.asked(x, "most 5", 0);
        Check.asked(x, "least 5", 0);
    }

    private static void faults() {
        CelloBoats x = fleet();
        Check.askFault(x, "", 1, 0);
        Check.askFault(x, "  ", 1, 2);
        Check.askFault(x, "mile", 1, 0);
        Check.askFault(x, " 5", 1, 1);
        Check.askFault(x, "often", 1, 5);
        Check.askFault(x, "often ", 1, 6);
        Check.askFault(x, "often mile", 1, 10);
        Check.askFault(x, "often all;", 1, 9);
        Check.askFault(x, "often all all", 1, 10);
        Check.askFault(x, "total mile<1", 1, 10);
        Check.askFault(x, "total all", 1, 6);
        Check.askFault(x, "total went", 1, 6);
        Check.askFault(x, "total bogus", 1, 6);
        Check.askFault(x, "total miles", 1, 6);
        Check.askFault(x, "total a", 1, 6);
        Check.askFault(x, "total 12345", 1, 10);
        Check.askFault(x, "total5", 1, 5);
        Check.askFault(x, "total 5mile", 1, 7);
        Check.askFault(x, "total carry", 1, 11);
        Check.askFault(x, "total carry5", 1, 11);
        Check.askFault(x, "total carry -5", 1, 12);
        Check.askFault(x, "total score +", 1, 12);
        Check.askFault(x, "total (1", 1, 8);
        Check.askFault(x, "total 1)", 1, 7);
        Check.askFault(x, "total min(1)", 1, 11);
        Check.askFault(x, "often [all", 1, 10);
        Check.askFault(x, "often all and", 1, 13);
        Check.asked(x, "often all", 3);
        Check.due("not counted as refused", x.status(1), 0);
    }

    private static void open() {
        CelloBoats x = fleet();
        Check.asked(x, "total((((((1))))))", 3);
        Check.askFault(x, "total(((((((1)))))))", 4, 11);
        Check.asked(x, "total carry carry carry carry carry carry 1+score score score score score score 0", carrySix());
        Check.askFault(x, "total carry score carry score carry score carry 1", 4, 42);
        Check.askFault(x, "total carry(carry(carry(carry 1", 4, 24);
        Check.asked(x, "total carry 1+carry 1+carry 1+carry 1+carry 1+carry 1+carry 1+carry 1", 0);
        Check.askFault(x, "often not not not not not not not all", 4, 30);
        Check.askFault(x, "often not[not[not[(1)=1]]]", 4, 18);
        Check.asked(x, "often not[not[not(1)=1]]", 0);
        Check.askFault(x, "total ((((((min(1,2)", 4, 15);
    }

    /** For a, b, c by hand: six times note*2-2, -3, -1 from 1 on, and six scores from 0 on. */
    private static long carrySix() {
        int a = 0;
        int[] less = {2, 3, 1};
        int[][] scores = {{2, 5}, {7}, {}};
        for (int boat = 0; boat < 3; boat++) {
            int c = 1;
            int s = 0;
            for (int i = 0; i < 6; i++) {
                c = c < 0 || c > 7 || boat == 0 && c == 6 ? 0 : Math.min(9, c * 2 - less[boat]);
                s = s < 0 || s >= scores[boat].length ? -1 : scores[boat][s];
            }
            a += c + s;
        }
        return a;
    }
}
