/** Promises 34 to 36: IMAGES. */
public final class ImageTest {
    private static final String TWO = "sound 9;boat a at 1 tight 2 rosin 3;boat b at 4 tight 5 rosin 6;score a 7;score a 0;swamp mile=3;";

    public static void main(String[] args) {
        writing();
        coming();
        refusing();
        Check.finish();
    }

    private static void dueImage(String what, CelloBoats x, byte[] due) {
        Check.due(what, x.image(), due.length);
        int[] got = Check.octets(x, due.length);
        for (int i = 0; i < due.length; i++) {
            Check.due(what + " byte " + i, got[i], due[i] & 255);
        }
        Check.due(what + " byte behind", x.octet(due.length), -1);
        Check.due(what + " byte -1", x.octet(-1), -1);
    }

    private static void writing() {
        CelloBoats x = new CelloBoats();
        Check.due("no image yet", x.octet(0), -1);
        dueImage("without a sound", x, Check.image(0, 0));
        x = Check.with(TWO);
        dueImage("at first", x, Check.image(0, 0, 1, 2, 3, 0, 0, 7, 0, 4, 5, 6, 0, 0));
        x.hours(1);
        Check.due("the latest image", x.octet(2), 1);
        dueImage("an hour later", x, Check.image(0, 1, 2, 2, 2, 0, 1, 7, 0, 4, 5, 6, 0, 0));
        x.hours(1);
        x.note(0, 1, 6);
        dueImage("sunk", x, Check.image(0, 2, 3, 2, 1, 1, 0, 7, 6, 4, 5, 6, 0, 0));
        x.hours(100);
        x.hours(100);
        x.hours(100);
        dueImage("hour 302", x, Check.image(1, 46, 3, 2, 1, 1, 0, 7, 6, 4, 5, 6, 0, 0));
    }

    private static void coming() {
        CelloBoats x = Check.with(TWO);
        x.seed(9);
        x.hours(4);
        Check.see(x, 0, 8);
        Check.put(x, Check.image(3, 231, 9, 99, 98, 0, 1, 3, 4, 8, 0, 99, 1, 0));
        Check.due("on", x.on(), true);
        Check.put(x, Check.image(1, 0, 9, 99, 98, 0, 1, 3, 4, 8, 0, 99, 1, 0));
        Check.due("on at 256", x.on(), true);
        dueImage("at 256", x, Check.image(1, 0, 9, 99, 98, 0, 1, 3, 4, 8, 0, 99, 1, 0));
        Check.put(x, Check.image(3, 231, 9, 99, 98, 0, 1, 3, 4, 8, 0, 99, 1, 0));
        Check.due("on at 999", x.on(), true);
        int[] has = {9, 2, 0, 0, 999, 1, 1, 0, 1, 0};
        for (int what = 0; what < has.length; what++) {
            Check.due("on has " + what, x.has(what), has[what]);
        }
        int[][] boats = {{9, 99, 98, 0, 1, 2, 1}, {8, 0, 99, 1, 0, 0, 0}};
        for (int b = 0; b < 2; b++) {
            for (int what = 0; what < 7; what++) {
                Check.due("on boat " + b + " " + what, x.boat(b, what), boats[b][what]);
            }
        }
        Check.due("on note", x.score(0, 0), 3);
        Check.due("on note 1", x.score(0, 1), 4);
        Check.due("nothing can be undone", x.undo(), false);
        Check.due("the tape goes", x.feed(0, 0, 0, 0, 0), 20);
        Check.due("status", x.status(5), 0);
        dueImage("the image of it", x, Check.image(3, 231, 9, 99, 98, 0, 1, 3, 4, 8, 0, 99, 1, 0));
    }

    private static void refused(CelloBoats x, String what, byte[] image) {
        int before = x.status(5);
        Check.put(x, image);
        Check.due(what, x.on(), false);
        Check.due(what + " is refused", x.status(5), before + 1);
        Check.due(what + ": all stays", x.has(4), 2);
        Check.due(what + ": kept stays", x.has(7), 1);
        Check.due(what + ": acts stay", x.has(9), 1);
        Check.due(what + ": the tape goes", x.feed(0, 0, 0, 0, 0), 20);
        x.end(0);
    }

    private static void refusing() {
        CelloBoats none = new CelloBoats();
        Check.put(none, Check.image(0, 0));
        Check.due("on without a sound", none.on(), false);
        CelloBoats x = Check.with(TWO);
        x.hours(2);
        refused(x, "nothing", new byte[0]);
        refused(x, "too short", Check.image(0, 0, 1, 2, 3, 0, 0, 7, 0, 4, 5, 6, 0));
        refused(x, "too long", Check.image(0, 0, 1, 2, 3, 0, 0, 7, 0, 4, 5, 6, 0, 0, 0));
        byte[] wrongCheck = Check.image(0, 0, 1, 2, 3, 0, 0, 7, 0, 4, 5, 6, 0, 0);
        wrongCheck[14]++;
        refused(x, "the last byte", wrongCheck);
        refused(x, "hour 1000", Check.image(3, 232, 1, 2, 3, 0, 0, 7, 0, 4, 5, 6, 0, 0));
        refused(x, "mile 10", Check.image(0, 0, 10, 2, 3, 0, 0, 7, 0, 4, 5, 6, 0, 0));
        refused(x, "tight 100", Check.image(0, 0, 1, 100, 3, 0, 0, 7, 0, 4, 5, 6, 0, 0));
        refused(x, "rosin 100", Check.image(0, 0, 1, 2, 3, 0, 0, 7, 0, 4, 5, 100, 0, 0));
        refused(x, "sunk 2", Check.image(0, 0, 1, 2, 3, 2, 0, 7, 0, 4, 5, 6, 0, 0));
        refused(x, "sunk at the last mile", Check.image(0, 0, 9, 2, 3, 1, 0, 7, 0, 4, 5, 6, 0, 0));
        refused(x, "place 2 of 2", Check.image(0, 0, 1, 2, 3, 0, 2, 7, 0, 4, 5, 6, 0, 0));
        refused(x, "place 1 of none", Check.image(0, 0, 1, 2, 3, 0, 0, 7, 0, 4, 5, 6, 0, 1));
        byte[] longer = java.util.Arrays.copyOf(Check.image(0, 0, 1, 2, 3, 0, 0, 7, 0, 4, 5, 6, 0, 0), 16);
        refused(x, "a byte behind it", longer);
        refused(x, "first note 8", Check.image(0, 0, 1, 2, 3, 0, 0, 8, 0, 4, 5, 6, 0, 0));
        refused(x, "note 8", Check.image(0, 0, 1, 2, 3, 0, 0, 7, 8, 4, 5, 6, 0, 0));
        Check.put(x, Check.image(0, 0, 9, 99, 99, 0, 1, 7, 7, 8, 99, 99, 1, 0));
        Check.due("on", x.on(), true);
    }
}
