import java.nio.charset.StandardCharsets;
import java.util.Random;

/** All promises: runs of calls by a fixed seed, the answers compared with those of the Model. */
public final class ModelTest {
    private static final int RUNS = 400;
    private static final String[] VALUES = {"note", "tight", "rosin", "mile", "wind"};
    private static final String[] ASKED = {"note", "tight", "rosin", "mile", "wind", "number", "sunk", "hour"};
    private static final String[] NAMES = {"a", "b", "cello", "dd", "first", "e", "abcdef", "zz", "f", "g", "h", "i"};

    private final Random random;
    private final String run;
    private final CelloBoats boats = new CelloBoats();
    private final Model model = new Model();
    private int calls;

    private ModelTest(long seed) {
        random = new Random(seed);
        run = "run " + seed + ": ";
    }

    public static void main(String[] args) {
        int from = args.length > 0 ? Integer.parseInt(args[0]) : 0;
        int many = args.length > 1 ? Integer.parseInt(args[1]) : RUNS;
        for (int seed = from; seed < from + many; seed++) {
            new ModelTest(seed).play();
        }
        Check.finish();
    }

    private int pick(int least, int most) {
        return least + random.nextInt(most - least + 1);
    }

    private boolean oneIn(int n) {
        return random.nextInt(n) == 0;
    }

    private void due(String call, long got, long want) {
        calls++;
        Check.due(run + call, got, want);
    }

    private void due(String call, boolean got, boolean want) {
        due(call, got ? 1 : 0, want ? 1 : 0);
    }

    private void play() {
        if (oneIn(3)) {
            step();
        }
        sound();
        while (calls < 400) {
            if (oneIn(60)) {
                sound();
            } else {
                step();
            }
        }
    }

    // ---- texts

    private String sum(int depth, String[] values, boolean question) {
        StringBuilder text = new StringBuilder(part(depth, values, question));
        for (int i = random.nextInt(depth > 0 ? 3 : 2); i > 0; i--) {
            text.append("+-*/".charAt(random.nextInt(4))).append(blank()).append(part(depth, values, question));
        }
        return text.toString();
    }

    private String part(int depth, String[] values, boolean question) {
        int kind = random.nextInt(depth > 0 ? 9 : 5);
        switch (kind) {
            case 0: return "" + random.nextInt(oneIn(9) ? 10000 : 12);
            case 5: return "(" + sum(depth - 1, values, question) + ")";
            case 6: return "min" + blank() + "(" + sum(depth - 1, values, question) + "," + sum(depth - 1, values, question) + ")";
            case 7: return "max(" + sum(depth - 1, values, question) + blank() + "," + sum(depth - 1, values, question) + ")";
            case 8: return question ? (oneIn(2) ? "carry " : "score ") + part(depth - 1, values, true)
                : "(" + sum(depth - 1, values, false) + ")";
            default: return values[random.nextInt(values.length)];
        }
    }

    private String test(int depth, String[] values, boolean question) {
        StringBuilder text = new StringBuilder(fact(depth, values, question));
        for (int i = random.nextInt(3); i > 0; i--) {
            text.append(oneIn(2) ? " and " : " or ").append(fact(depth, values, question));
        }
        return text.toString();
    }

    private String fact(int depth, String[] values, boolean question) {
        int kind = random.nextInt(depth > 0 ? 6 : 4);
        switch (kind) {
            case 0: return oneIn(4) ? "all" : "1=2";
            case 4: return "not " + fact(depth - 1, values, question);
            case 5: return "[" + test(depth - 1, values, question) + "]";
            default: return sum(Math.min(depth, 1), values, question) + "<>=".charAt(random.nextInt(3))
                + sum(Math.min(depth, 1), values, question);
        }
    }

    private String blank() {
        return oneIn(4) ? oneIn(2) ? " " : "\n" : "";
    }

    private String soundText() {
        int last = oneIn(3) ? pick(5, 60) : pick(8, 25);
        StringBuilder text = new StringBuilder(blank() + "sound " + last + blank() + ";");
        int count = oneIn(5) ? pick(0, 6) : pick(2, 4);
        for (int i = 0; i < count; i++) {
            text.append("boat ").append(NAMES[i]).append(" at ").append(oneIn(4) ? pick(0, last) : pick(0, last / 3));
            text.append(" tight ").append(pick(0, 99)).append(" rosin ").append(oneIn(2) ? pick(0, 99) : pick(0, 3));
            text.append(blank()).append(";").append(blank());
            for (int k = oneIn(8) ? 0 : pick(1, 6); k > 0; k--) {
                text.append("score ").append(NAMES[i]).append(" ").append(pick(0, 7)).append(";");
            }
        }
        for (int i = oneIn(2) ? 0 : pick(1, 6), k = 0; k < i; k++) {
            text.append("rider ").append(NAMES[k + 6]).append(" key ").append(pick(0, 7)).append(";");
        }
        for (int i = random.nextInt(5); i > 0; i--) {
            text.append("wolf ").append(pick(0, last)).append(" ").append(pick(0, 7)).append(";");
        }
        formulas(text);
        return text.toString();
    }

    private void formulas(StringBuilder text) {
        String[] swampValues = {"note", "tight", "rosin", "mile", "wind", "went"};
        if (oneIn(2)) {
            text.append("carry note/2+").append(sum(0, VALUES, false)).append("/9;");
        } else if (!oneIn(3)) {
            text.append("carry ").append(sum(2, VALUES, false)).append(";");
        }
        if (!oneIn(3)) {
            text.append("slips ").append(oneIn(2) ? "tight-note+2" : sum(2, VALUES, false)).append(";");
        }
        if (!oneIn(3)) {
            text.append("swamp ").append(oneIn(2) ? "mile=" + pick(1, 12) + " and " : "").append(test(2, swampValues, false)).append(";");
        }
        for (int i = random.nextInt(3); i > 0; i--) {
            text.append("wind ").append(pick(0, 9)).append(";squall ").append(pick(0, 100)).append(";");
        }
    }

    private String question() {
        String[] tests = {"first ", "last ", "often "};
        String[] sums = {"total ", "most ", "least "};
        int depth = oneIn(6) ? 5 : 2;
        return blank() + (oneIn(2) ? tests[random.nextInt(3)] + test(depth, ASKED, true)
            : sums[random.nextInt(3)] + sum(depth, ASKED, true)) + blank();
    }

    /** A byte or a word taken out, put in or changed. */
    private String spoilt(String text) {
        String[] put = {"(", ")", "[", "]", "not ", " ", "", ";", "9", "0", "sound ", "boat ", "x", "carry ", ",", "<", "12345", "A", "\t",
            "wolf 1 1;", "abcdefg", "score a 1;", "min(", "went", "hour", "[[[", "(((", "not not not ", "all "};
        StringBuilder s = new StringBuilder(text);
        for (int i = pick(1, 2); i > 0; i--) {
            int at = random.nextInt(s.length() + 1);
            int to = Math.min(s.length(), at + random.nextInt(3));
            s.replace(at, to, put[random.nextInt(put.length)]);
        }
        return oneIn(6) ? s.substring(0, random.nextInt(s.length() + 1)) : s.toString();
    }

    private void put(byte[] bytes) {
        due("end(0)", boats.end(0), model.end(0));
        for (int i = 0; i < bytes.length; i += 20) {
            int[] n = new int[5];
            for (int k = 0; k < 20; k++) {
                n[k / 4] = n[k / 4] << 8 | (i + k < bytes.length ? bytes[i + k] & 255 : random.nextInt(256));
            }
            due("feed", boats.feed(n[0], n[1], n[2], n[3], n[4]), model.feed(n));
        }
        due("end", boats.end(bytes.length), model.end(bytes.length));
    }

    private void put(String text) {
        put(text.getBytes(StandardCharsets.ISO_8859_1));
    }

    private void sound() {
        for (int i = 0; i < 4; i++) {
            String text = oneIn(2) ? soundText() : spoilt(soundText());
            if (text.length() > 1600) {
                continue;
            }
            put(text);
            int want = model.sound();
            due("sound() of " + text, boats.sound(), want);
            due("fault(0) of " + text, boats.fault(0), model.fault(0));
            due("fault(1) of " + text, boats.fault(1), model.fault(1));
            if (want > 0) {
                return;
            }
        }
    }

    private void asks() {
        String text = oneIn(3) ? spoilt(question()) : question();
        if (text.length() > 1600) {
            return;
        }
        put(text);
        due("ask() of " + text, boats.ask(), model.ask());
        due("fault(0) of " + text, boats.fault(0), model.fault(0));
        due("fault(1) of " + text, boats.fault(1), model.fault(1));
    }

    // ---- calls

    private void step() {
        int b = oneIn(9) ? pick(-1, 7) : Math.min(pick(0, 5), Math.max(0, model.has(1) - 1));
        int what = oneIn(9) ? pick(-1, 10) : pick(0, 6);
        switch (random.nextInt(6)) {
            case 0: told(b, what); break;
            case 1: coming(b, what); break;
            case 2: trials(b, what); break;
            case 3: acts(b); break;
            case 4: acts(b); break;
            default: texts(b); break;
        }
    }

    private void told(int b, int what) {
        int k = pick(-1, 7);
        int kind = pick(-1, 2);
        int mile = pick(-1, 61);
        for (int i = 0; i <= 9; i++) {
            due("has(" + i + ")", boats.has(i), model.has(i));
        }
        due("letter", boats.letter(kind, b, k), model.letter(kind, b, k));
        due("boat(" + b + ", " + what + ")", boats.boat(b, what), model.boat(b, what));
        due("score(" + b + ", " + k + ")", boats.score(b, k), model.score(b, k));
        due("carry(" + b + ", " + k + ")", boats.carry(b, k), model.carry(b, k));
        due("wolf(" + mile + ", " + k + ")", boats.wolf(mile, k), model.wolf(mile, k));
        due("rider(" + k + ")", boats.rider(k), model.rider(k));
        int kept = pick(-1, Math.max(1, model.has(7)));
        due("kept(" + kept + ", " + (what & 3) + ")", boats.kept(kept, what & 3), model.kept(kept, what & 3));
        due("status(" + what + ")", boats.status(what), model.status(what));
    }

    private void coming(int b, int what) {
        int n = oneIn(9) ? pick(-1, 70) : pick(0, 12);
        int other = pick(0, 5);
        int one = what > 3 ? 0 : what;
        due("later(" + b + ", " + n + ", " + one + ")", boats.later(b, n, one), model.later(b, n, one));
        due("lands(" + b + ")", boats.lands(b), model.lands(b));
        due("cat(" + what + ")", boats.cat(what), model.cat(what));
        due("cat(0)", boats.cat(0), model.cat(0));
        due("meets(" + b + ", " + other + ")", boats.meets(b, other), model.meets(b, other));
        due("which()", boats.which(), model.which());
        due("tells(0)", boats.tells(0), model.tells(0));
        due("tells(1)", boats.tells(1), model.tells(1));
    }

    private void trials(int b, int what) {
        int n = oneIn(5) ? pick(-1, 32) : pick(1, 12);
        due("better(" + b + ", " + n + ", " + what % 3 + ")", boats.better(b, n, what % 3), model.better(b, n, what % 3));
        due("strung(" + b + ", " + n + ", " + what % 2 + ")", boats.strung(b, n, what % 2), model.strung(b, n, what % 2));
        int rider = pick(-1, 6);
        if (oneIn(3)) {
            due("rides(" + rider + ")", boats.rides(rider), model.rides(rider));
        }
        if (oneIn(6)) {
            int mile = oneIn(9) ? pick(-1, 61) : pick(0, Math.max(5, model.has(0)));
            int k = pick(-2, 5);
            due("plan(" + b + ", " + mile + ", -1)", boats.plan(b, mile, -1), model.plan(b, mile, -1));
            due("plan(" + b + ", " + mile + ", " + k + ")", boats.plan(b, mile, k), model.plan(b, mile, k));
        }
    }

    private void acts(int b) {
        int n = oneIn(9) ? pick(-1, 102) : pick(1, 4);
        int k = pick(-1, 6);
        int note = pick(-1, 8);
        switch (random.nextInt(9)) {
            case 0: due("tune", boats.tune(b, n * 7), model.tune(b, n * 7)); break;
            case 1: due("rosin", boats.rosin(b, n), model.rosin(b, n)); break;
            case 2: due("raise", boats.raise(b), model.raise(b)); break;
            case 3: due("note", boats.note(b, k, note), model.note(b, k, note)); break;
            case 4: due("hours " + n, boats.hours(n), model.hours(n)); break;
            case 5: due("chance " + n, boats.chance(n), model.chance(n)); break;
            case 6: due("seed", boats.seed(n * 7777777), model.seed(n * 7777777)); break;
            default:
                for (int i = oneIn(9) ? 21 : pick(1, 3); i > 0; i--) {
                    due("undo", boats.undo(), model.undo());
                }
        }
    }

    private void texts(int b) {
        switch (random.nextInt(4)) {
            case 0: seesRows(b); break;
            case 1: images(); break;
            default: asks();
        }
    }

    private void seesRows(int b) {
        int rows = oneIn(9) ? pick(0, 17) : pick(1, 2);
        byte[] bytes = new byte[rows * 2 + (oneIn(20) ? 1 : 0)];
        for (int i = 0; i < bytes.length; i++) {
            int note = oneIn(2) ? pick(0, 8) : Math.max(0, model.score(b, pick(0, 2)));
            bytes[i] = (byte) (oneIn(60) ? pick(0, 255) : i % 2 == 0 ? pick(0, oneIn(4) ? 30 : 5) : note);
        }
        put(bytes);
        due("see", boats.see(), model.see());
        due("which()", boats.which(), model.which());
        due("tells(0)", boats.tells(0), model.tells(0));
        due("tells(1)", boats.tells(1), model.tells(1));
    }

    private void images() {
        int size = model.image();
        due("image", boats.image(), size);
        int[] bytes = new int[size - 1];
        for (int k = 0; k < size; k++) {
            due("octet " + k, boats.octet(k), model.octet(k));
            if (k < size - 1) {
                bytes[k] = model.octet(k);
            }
        }
        if (oneIn(2)) {
            return;
        }
        if (oneIn(2)) {
            bytes[pick(0, size - 2)] = oneIn(2) ? pick(0, 255) : pick(0, 8);
        }
        if (oneIn(3)) {
            bytes[0] = 3;
            bytes[1] = pick(200, 233);
        }
        byte[] image = Check.image(bytes);
        if (oneIn(9)) {
            image[pick(0, image.length - 1)]++;
        }
        put(image);
        due("on", boats.on(), model.on());
    }
}
