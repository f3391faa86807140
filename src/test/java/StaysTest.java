import java.util.Arrays;
import java.util.HashSet;
import java.util.LinkedHashMap;
import java.util.Map;
import java.util.Set;
import java.util.function.Consumer;

/**
 * All promises: what a call leaves as it is. Two objects are brought to one state, one of them gets
 * the call, then all that an object tells is compared, sort by sort; only what is named may differ,
 * and that must differ.
 */
public final class StaysTest {
    private static final String SOUND = "sound 30;boat up at 2 tight 20 rosin 9;boat low at 3 tight 7 rosin 5;boat in at 27 tight 4 rosin 2;"
        + "score up 1;score up 2;score up 3;score low 4;score low 1;score in 3;score in 2;wolf 9 2;rider jo key 1;rider al key 2;"
        + "carry note;slips tight-note+wind+2;swamp mile=7;wind 1;squall 50;";
    private static final String OTHER = "sound 31;boat up at 2 tight 20 rosin 9;squall 50;";
    /** Where one of these differs, what is worked out from them may differ, too. */
    private static final Set<String> GROUNDS = new HashSet<>(Arrays.asList("sound", "hour", "boats", "scores", "seen"));
    private static final int CALLS_MOST = 512;

    public static void main(String[] args) {
        questions();
        tape();
        sounds();
        heard();
        acts();
        images();
        Check.finish();
    }

    /** BOAT 0 is on its way, 1 is SUNK, 2 is LANDED; there is something of every sort. */
    private static CelloBoats ready() {
        CelloBoats x = Check.with(SOUND);
        x.undo();
        x.seed(5);
        x.seed(-1);
        x.end(-1);
        Check.put(x, "sound 4;");
        x.sound();
        x.hours(1);
        x.hours(0);
        x.tune(0, 30);
        x.tune(9, 1);
        x.chance(1);
        Check.ask(x, "first mile");
        Check.see(x, 0, 3, 2, 2);
        x.image();
        x.rosin(0, 3);
        Check.put(x, "seven b");
        return x;
    }

    private static String boats(CelloBoats x) {
        StringBuilder s = new StringBuilder(x.has(5) + "/" + x.has(6));
        for (int boat = 0; boat < 3; boat++) {
            for (int what : new int[] {0, 1, 2, 3, 4, 6}) {
                s.append(' ').append(x.boat(boat, what));
            }
        }
        return s.toString();
    }

    private static String scores(CelloBoats x) {
        StringBuilder s = new StringBuilder();
        for (int boat = 0; boat < 3; boat++) {
            for (int k = 0; k < 4; k++) {
                s.append(' ').append(x.score(boat, k));
            }
        }
        return s.toString();
    }

    private static String sound(CelloBoats x) {
        StringBuilder s = new StringBuilder(x.has(0) + " " + x.has(1) + " " + x.has(2) + " " + x.has(3) + " " + x.wolf(9, 2));
        for (int k = 0; k < 3; k++) {
            s.append(' ').append(x.letter(0, 1, k)).append(' ').append(x.letter(1, 1, k)).append(' ').append(x.rider(k));
        }
        return s.toString();
    }

    private static String kept(CelloBoats x) {
        StringBuilder s = new StringBuilder().append(x.has(7));
        for (int k = 0; k < 4; k++) {
            s.append(' ').append(x.kept(k, 0)).append('/').append(x.kept(k, 1)).append('/').append(x.kept(k, 2));
        }
        return s.toString();
    }

    private static String acts(CelloBoats x) {
        StringBuilder s = new StringBuilder().append(x.has(9));
        for (int k = x.has(9); k > 0; k--) {
            x.undo();
            s.append(' ').append(x.has(4)).append('/').append(x.boat(0, 1)).append('/').append(x.boat(0, 2));
        }
        return s.toString();
    }

    /** By the DRAWS that come: squalls or not, in 14 HOURS. */
    private static String seed(CelloBoats x) {
        StringBuilder s = new StringBuilder();
        for (int k = 0; k < 14; k++) {
            s.append(x.chance(1));
        }
        return s.toString();
    }

    private static Map<String, String> told(CelloBoats x) {
        Map<String, String> all = new LinkedHashMap<>();
        for (int kind = 0; kind < 6; kind++) {
            all.put("status" + kind, "" + x.status(kind));
        }
        all.put("fault", x.fault(0) + " " + x.fault(1));
        all.put("sound", sound(x));
        all.put("hour", "" + x.has(4));
        all.put("boats", boats(x));
        all.put("scores", scores(x));
        all.put("kept", kept(x));
        all.put("seen", "" + x.has(8));
        all.put("which", x.which() + " " + x.tells(0) + " " + x.tells(1));
        all.put("image", Arrays.toString(Check.octets(x, 40)));
        all.put("tape", "" + x.feed(0, 0, 0, 0, 0));
        // These two change what they look at, so they come last.
        all.put("acts", acts(x));
        all.put("seed", seed(x));
        return all;
    }

    private static void differs(String call, Consumer<CelloBoats> made, String... sorts) {
        Set<String> due = new HashSet<>(Arrays.asList(sorts));
        CelloBoats with = ready();
        made.accept(with);
        Map<String, String> behind = told(with);
        Map<String, String> ahead = told(ready());
        boolean grounds = due.stream().anyMatch(GROUNDS::contains);
        for (String sort : ahead.keySet()) {
            boolean same = ahead.get(sort).equals(behind.get(sort));
            if (!sort.equals("which") || !grounds) {
                Check.due(call + ": " + sort + " stays (" + ahead.get(sort) + " ; " + behind.get(sort) + ")", same, !due.contains(sort));
            }
        }
    }

    private static void onTape(CelloBoats x, String text) {
        x.end(0);
        Check.put(x, text);
    }

    private static void onTape(CelloBoats x, byte[] bytes) {
        x.end(0);
        Check.put(x, bytes);
    }

    /** Calls that only tell, asked for what there is and for what there is not. */
    private static void questions() {
        for (int n = -1; n < 4; n++) {
            int k = n;
            differs("fault " + k, x -> x.fault(k));
            differs("has " + k, x -> x.has(k));
            differs("letter " + k, x -> x.letter(k, k, k));
            differs("boat " + k, x -> x.boat(k, k));
            differs("score " + k, x -> x.score(k, k));
            differs("carry " + k, x -> x.carry(k, k));
            differs("wolf " + k, x -> x.wolf(k, k));
            differs("rider " + k, x -> x.rider(k));
            differs("kept " + k, x -> x.kept(k, k));
            differs("later " + k, x -> x.later(k, 9, k));
            differs("lands " + k, x -> x.lands(k));
            differs("cat " + k, x -> x.cat(k));
            differs("meets " + k, x -> x.meets(k, 0));
            differs("plan " + k, x -> x.plan(k, 9, -1));
            differs("strung " + k, x -> x.strung(k, 30, 0));
            differs("better " + k, x -> x.better(k, 30, 0));
            differs("rides " + k, x -> x.rides(k));
            differs("tells " + k, x -> x.tells(k));
            differs("octet " + k, x -> x.octet(k));
            differs("status " + k, x -> x.status(k));
        }
        differs("which", x -> x.which());
        differs("ask", x -> {
            onTape(x, "total carry note+score 1");
            x.ask();
        }, "fault", "tape");
        differs("ask with another fault", x -> {
            onTape(x, "total ((((((( ");
            x.ask();
        }, "fault", "tape");
    }

    private static void tape() {
        differs("feed", x -> x.feed(1, 2, 3, 4, 5), "tape");
        differs("end", x -> x.end(3), "tape");
        differs("end, too many", x -> x.end(8), "status0");
        differs("end, below 0", x -> x.end(-1), "status0");
        differs("feed, too many", x -> {
            for (int k = 0; k < 80; k++) {
                x.feed(1, 2, 3, 4, 5);
            }
            x.end(7);
        }, "status0");
    }

    private static void sounds() {
        differs("sound, the same", x -> {
            onTape(x, SOUND);
            x.sound();
        }, "fault", "tape", "hour", "boats", "kept", "seen", "acts");
        differs("sound, another", x -> {
            onTape(x, OTHER);
            x.sound();
        }, "fault", "tape", "sound", "hour", "boats", "scores", "kept", "seen", "acts");
        differs("sound, a fault", x -> {
            onTape(x, OTHER + "wind 10;");
            x.sound();
        }, "fault", "tape", "status1");
    }

    private static void heard() {
        differs("see", x -> {
            onTape(x, Check.bytes(30, 8));
            x.see();
        }, "tape", "seen");
        differs("see, none such", x -> {
            onTape(x, Check.bytes(30, 9));
            x.see();
        }, "tape", "status1");
    }

    private static void acts() {
        differs("tune", x -> x.tune(0, 1), "boats", "acts");
        differs("tune, a sunk one", x -> x.tune(1, 50), "boats", "acts");
        differs("tune, a landed one", x -> x.tune(2, 50), "boats", "acts");
        differs("tune, refused", x -> x.tune(0, 100), "status2");
        differs("rosin", x -> x.rosin(0, 1), "boats", "acts");
        differs("rosin, a sunk one", x -> x.rosin(1, 1), "boats", "acts");
        differs("rosin, a landed one", x -> x.rosin(2, 1), "boats", "acts");
        differs("rosin, refused", x -> x.rosin(0, 0), "status2");
        differs("raise", x -> x.raise(1), "boats", "acts");
        differs("raise, refused", x -> x.raise(2), "status2");
        differs("note", x -> x.note(0, 1, 7), "scores", "acts");
        differs("note, a sunk one", x -> x.note(1, 0, 7), "scores", "acts");
        differs("note, a landed one", x -> x.note(2, 1, 7), "scores", "acts");
        differs("note, refused", x -> x.note(0, 3, 7), "status2");
        differs("hours", x -> x.hours(1), "hour", "boats", "acts");
        differs("hours, one lands", x -> x.hours(20), "hour", "boats", "kept", "acts");
        differs("hours, refused", x -> x.hours(101), "status3");
        differs("chance", x -> x.chance(1), "hour", "boats", "acts", "seed");
        differs("chance, refused", x -> x.chance(0), "status3");
        differs("undo", x -> x.undo(), "boats", "acts");
        differs("undo all", x -> {
            for (int k = 0; k < 4; k++) {
                x.undo();
            }
        }, "hour", "boats", "kept", "acts");
        differs("undo, refused", x -> {
            while (x.undo()) {
                continue;
            }
        }, "hour", "boats", "kept", "acts", "status4");
        differs("seed", x -> x.seed(6), "seed");
        differs("seed, refused", x -> x.seed(-1), "status5");
    }

    private static byte[] latest(CelloBoats x) {
        int size = 0;
        while (size < CALLS_MOST && x.octet(size) != CelloBoats.NONE) {
            size++;
        }
        return Check.bytes(Check.octets(x, size));
    }

    private static void images() {
        differs("image", x -> x.image(), "image");
        // The image was written ahead of the latest ACT, which gave rosin.
        differs("on", x -> {
            onTape(x, latest(x));
            x.on();
        }, "tape", "boats", "kept", "acts");
        differs("on, refused", x -> {
            byte[] image = latest(x);
            image[image.length - 1]++;
            onTape(x, image);
            x.on();
        }, "tape", "status5");
    }
}
