import java.util.ArrayDeque;
import java.util.ArrayList;
import java.util.Arrays;
import java.util.HashSet;
import java.util.List;
import java.util.Set;

/**
 * The document told a second time, in the slowest and plainest way, with the whole Java library:
 * ModelTest compares its answers with those of CelloBoats.
 */
final class Model {
    static final int NONE = -1;
    static final long NOTHING = -1000000000000000L;
    static final Set<String> OWN = new HashSet<>(Arrays.asList(("sound boat at tight rosin score wolf rider key carry slips "
        + "swamp wind squall note mile went number sunk hour or and not all min max").split(" ")));

    static final class Fault extends RuntimeException {
        private static final long serialVersionUID = 1L;
        final int kind;
        final int place;

        Fault(int kind, int place) {
            this.kind = kind;
            this.place = place;
        }
    }

    static final class Boat {
        String name;
        int mile;
        int tight;
        int rosin;
        boolean sunk;
        int place;
        List<Integer> score = new ArrayList<>();

        Boat copy() {
            Boat b = new Boat();
            b.name = name;
            b.mile = mile;
            b.tight = tight;
            b.rosin = rosin;
            b.sunk = sunk;
            b.place = place;
            b.score = new ArrayList<>(score);
            return b;
        }
    }

    /** What a PART may ask for. */
    static final class View {
        int note;
        int wind;
        int went;
        int number;
        Boat boat;
    }

    interface Sum {
        long of(View v);
    }

    interface Test {
        boolean of(View v);
    }

    static final class Sound {
        int last;
        List<Boat> boats = new ArrayList<>();
        List<String> riders = new ArrayList<>();
        List<Integer> keys = new ArrayList<>();
        Set<String> wolves = new HashSet<>();
        Sum carry;
        Sum slips;
        Test swamp;
        int wind;
        int squall;
        int statements;
    }

    /** All that an ACT changes. */
    static final class State {
        int hour;
        List<Boat> boats = new ArrayList<>();
        List<int[]> kept = new ArrayList<>();

        State copy() {
            State s = new State();
            s.hour = hour;
            for (Boat b : boats) {
                s.boats.add(b.copy());
            }
            s.kept = new ArrayList<>(kept);
            return s;
        }
    }

    private final List<Integer> tape = new ArrayList<>();
    private Sound sound;
    private State now = new State();
    private final ArrayDeque<State> acts = new ArrayDeque<>();
    private List<int[]> seen = new ArrayList<>();
    private final int[] refused = new int[6];
    private int faultKind = 0;
    private int faultPlace = NONE;
    private long seed = 1;
    private int[] image = new int[0];

    // ---- the text

    private final class Parser {
        final String text;
        int pos = 0;
        int open = 0;
        String sort = "";

        Parser(String text) {
            this.text = text;
        }

        char peek() {
            while (pos < text.length() && (text.charAt(pos) == ' ' || text.charAt(pos) == '\n')) {
                pos++;
            }
            return pos < text.length() ? text.charAt(pos) : (char) 999;
        }

        boolean letter(int i) {
            return i >= 0 && i < text.length() && text.charAt(i) >= 'a' && text.charAt(i) <= 'z';
        }

        boolean digit(int i) {
            return i >= 0 && i < text.length() && text.charAt(i) >= '0' && text.charAt(i) <= '9';
        }

        Fault one() {
            peek();
            return new Fault(1, pos);
        }

        /** The word that comes, or nothing. */
        String word() {
            peek();
            if (digit(pos - 1)) {
                return "";
            }
            int end = pos;
            while (letter(end)) {
                end++;
            }
            return text.substring(pos, end);
        }

        void need(String what) {
            boolean there = Character.isLetter(what.charAt(0)) ? word().equals(what) : peek() == what.charAt(0);
            if (!there) {
                throw one();
            }
            pos += what.length();
        }

        boolean takeWord(String what) {
            if (word().equals(what)) {
                pos += what.length();
                return true;
            }
            return false;
        }

        int number(int least, int most) {
            peek();
            if (!digit(pos) || letter(pos - 1)) {
                throw one();
            }
            int end = pos;
            while (digit(end)) {
                end++;
                if (end - pos > 4) {
                    throw new Fault(1, end - 1);
                }
            }
            int value = Integer.parseInt(text.substring(pos, end));
            if (value < least || value > most) {
                throw new Fault(2, pos);
            }
            pos = end;
            return value;
        }

        String name() {
            String w = word();
            if (w.isEmpty() || OWN.contains(w)) {
                throw one();
            }
            if (w.length() > 6) {
                throw new Fault(1, pos + 6);
            }
            return w;
        }

        void enter(int length) {
            if (open == 6) {
                throw new Fault(4, pos);
            }
            open++;
            pos += length;
        }

        Test test() {
            Test left = both();
            while (takeWord("or")) {
                Test a = left;
                Test b = both();
                left = v -> a.of(v) || b.of(v);
            }
            return left;
        }

        Test both() {
            Test left = fact();
            while (takeWord("and")) {
                Test a = left;
                Test b = fact();
                left = v -> a.of(v) && b.of(v);
            }
            return left;
        }

        Test fact() {
            if (word().equals("not")) {
                enter(3);
                Test a = fact();
                open--;
                return v -> !a.of(v);
            }
            if (peek() == '[') {
                enter(1);
                Test a = test();
                need("]");
                open--;
                return a;
            }
            if (takeWord("all")) {
                return v -> true;
            }
            Sum a = sum();
            char sign = peek();
            if (sign != '<' && sign != '>' && sign != '=') {
                throw one();
            }
            pos++;
            Sum b = sum();
            return sign == '<' ? v -> a.of(v) < b.of(v) : sign == '>' ? v -> a.of(v) > b.of(v) : v -> a.of(v) == b.of(v);
        }

        Sum sum() {
            Sum left = product();
            while (peek() == '+' || peek() == '-') {
                boolean plus = peek() == '+';
                pos++;
                Sum a = left;
                Sum b = product();
                left = plus ? v -> cut(a.of(v) + b.of(v)) : v -> cut(a.of(v) - b.of(v));
            }
            return left;
        }

        Sum product() {
            Sum left = part();
            while (peek() == '*' || peek() == '/') {
                boolean times = peek() == '*';
                pos++;
                Sum a = left;
                Sum b = part();
                left = times ? v -> cut(a.of(v) * b.of(v)) : v -> floor(a.of(v), b.of(v));
            }
            return left;
        }

        Sum part() {
            if (digit(peek() == 999 ? -1 : pos)) {
                int n = number(0, 9999);
                return v -> n;
            }
            if (peek() == '(') {
                enter(1);
                Sum a = sum();
                need(")");
                open--;
                return a;
            }
            String w = word();
            boolean question = sort.equals("question");
            if (w.equals("min") || w.equals("max")) {
                pos += 3;
                if (peek() != '(') {
                    throw one();
                }
                enter(1);
                Sum a = sum();
                need(",");
                Sum b = sum();
                need(")");
                open--;
                return w.equals("min") ? v -> Math.min(a.of(v), b.of(v)) : v -> Math.max(a.of(v), b.of(v));
            }
            if (question && (w.equals("carry") || w.equals("score"))) {
                enter(5);
                Sum a = part();
                open--;
                return w.equals("carry") ? v -> carryPart(v, a.of(v)) : v -> scorePart(v, a.of(v));
            }
            Sum value = value(w, question);
            if (value == null) {
                throw one();
            }
            pos += w.length();
            return value;
        }

        Sum value(String w, boolean question) {
            switch (w) {
                case "note": return v -> v.note;
                case "tight": return v -> v.boat.tight;
                case "rosin": return v -> v.boat.rosin;
                case "mile": return v -> v.boat.mile;
                case "wind": return v -> v.wind;
                case "went": return sort.equals("swamp") ? v -> v.went : null;
                case "number": return question ? v -> v.number : null;
                case "sunk": return question ? v -> v.boat.sunk ? 1 : 0 : null;
                case "hour": return question ? v -> now.hour : null;
                default: return null;
            }
        }

        Sound readSound() {
            Sound s = new Sound();
            while (peek() != 999) {
                if (s.statements == 80) {
                    throw new Fault(5, pos);
                }
                int start = pos;
                String w = word();
                if (w.equals("sound") != (s.statements == 0)) {
                    throw one();
                }
                pos += w.length();
                statement(s, w, start);
                need(";");
                s.statements++;
            }
            if (s.statements == 0) {
                throw one();
            }
            return s;
        }

        void statement(Sound s, String w, int start) {
            sort = w;
            open = 0;
            switch (w) {
                case "sound":
                    s.last = number(5, 60);
                    break;
                case "boat":
                    tooMany(s.boats.size() == 6, start);
                    Boat b = new Boat();
                    b.name = given(s);
                    need("at");
                    b.mile = number(0, s.last);
                    need("tight");
                    b.tight = number(0, 99);
                    need("rosin");
                    b.rosin = number(0, 99);
                    s.boats.add(b);
                    break;
                case "score":
                    String name = name();
                    Boat of = s.boats.stream().filter(x -> x.name.equals(name)).findFirst().orElse(null);
                    if (of == null) {
                        throw new Fault(3, pos);
                    }
                    pos += name.length();
                    peek();
                    int at = pos;
                    int note = number(0, 7);
                    tooMany(of.score.size() == 6, at);
                    of.score.add(note);
                    break;
                case "wolf":
                    int mile = number(0, s.last);
                    peek();
                    int where = pos;
                    if (!s.wolves.add(mile + "/" + number(0, 7))) {
                        throw new Fault(2, where);
                    }
                    break;
                case "rider":
                    tooMany(s.riders.size() == 6, start);
                    s.riders.add(given(s));
                    need("key");
                    s.keys.add(number(0, 7));
                    break;
                case "carry":
                    tooMany(s.carry != null, start);
                    s.carry = sum();
                    break;
                case "slips":
                    tooMany(s.slips != null, start);
                    s.slips = sum();
                    break;
                case "swamp":
                    tooMany(s.swamp != null, start);
                    s.swamp = test();
                    break;
                case "wind":
                    s.wind = number(0, 9);
                    break;
                case "squall":
                    s.squall = number(0, 100);
                    break;
                default:
                    throw new Fault(1, start);
            }
        }

        void tooMany(boolean many, int place) {
            if (many) {
                throw new Fault(5, place);
            }
        }

        String given(Sound s) {
            String name = name();
            if (s.riders.contains(name) || s.boats.stream().anyMatch(b -> b.name.equals(name))) {
                throw new Fault(3, pos);
            }
            pos += name.length();
            return name;
        }
    }

    static long cut(long n) {
        return Math.max(-1000000, Math.min(1000000, n));
    }

    static long floor(long a, long b) {
        return b == 0 ? 0 : Math.floorDiv(a, b);
    }

    private long carryPart(View v, long note) {
        return note < 0 || note > 7 ? 0 : reach(v.boat, (int) note, sound.wind);
    }

    private long scorePart(View v, long k) {
        return k < 0 || k >= v.boat.score.size() ? -1 : v.boat.score.get((int) k);
    }

    private String tapeText() {
        StringBuilder text = new StringBuilder();
        for (int b : tape) {
            text.append((char) b);
        }
        tape.clear();
        return text.toString();
    }

    // ---- bows

    private boolean landed(Boat b) {
        return b.mile == sound.last;
    }

    private int reach(Boat b, int note, int wind) {
        if (sound.wolves.contains(b.mile + "/" + note)) {
            return 0;
        }
        View v = new View();
        v.boat = b;
        v.note = note;
        v.wind = wind;
        long far = sound.carry == null ? 1 : sound.carry.of(v);
        return (int) Math.max(-9, Math.min(9, far));
    }

    private void bow(Boat b, int note, int wind) {
        int from = b.mile;
        b.mile = Math.max(0, Math.min(sound.last, b.mile + reach(b, note, wind)));
        View v = new View();
        v.boat = b;
        v.note = note;
        v.wind = wind;
        v.went = b.mile - from;
        if (sound.swamp != null && sound.swamp.of(v) && !landed(b)) {
            b.sunk = true;
        }
        if (sound.slips != null) {
            b.tight = (int) Math.max(0, Math.min(99, sound.slips.of(v)));
        }
        b.rosin = Math.max(0, b.rosin - 1);
    }

    /** The NOTE, or 8. */
    private int hour(Boat b, int wind) {
        if (landed(b) || b.sunk || b.score.isEmpty()) {
            return 8;
        }
        int note = b.score.get(b.place);
        bow(b, note, wind);
        b.place = (b.place + 1) % b.score.size();
        return note;
    }

    private Boat behind(Boat b, int n) {
        Boat copy = b.copy();
        for (int i = 0; i < n; i++) {
            hour(copy, sound.wind);
        }
        return copy;
    }

    private int landsIn(Boat b, int n) {
        for (int k = 0; k <= n; k++) {
            if (landed(behind(b, k))) {
                return k;
            }
        }
        return NONE;
    }

    private int ahead(int most) {
        return Math.min(most, 999 - now.hour);
    }

    private boolean none(int boat) {
        return boat < 0 || boat >= now.boats.size();
    }

    private void act() {
        acts.addLast(now.copy());
        if (acts.size() > 20) {
            acts.removeFirst();
        }
    }

    private int refuse(int kind) {
        refused[kind]++;
        return NONE;
    }

    // ---- the face

    int feed(int... numbers) {
        if (tape.size() + 20 > 1600) {
            return refuse(0);
        }
        for (int n : numbers) {
            for (int i = 3; i >= 0; i--) {
                tape.add((n >>> 8 * i) % 256);
            }
        }
        return tape.size();
    }

    boolean end(int n) {
        if (n < 0 || n > tape.size()) {
            refuse(0);
            return false;
        }
        tape.subList(n, tape.size()).clear();
        return true;
    }

    int sound() {
        try {
            sound = new Parser(tapeText()).readSound();
        } catch (Fault f) {
            faultKind = f.kind;
            faultPlace = f.place;
            return refuse(1);
        }
        faultKind = 0;
        faultPlace = NONE;
        now = new State();
        for (Boat b : sound.boats) {
            now.boats.add(b.copy());
        }
        acts.clear();
        seen.clear();
        return sound.statements;
    }

    int fault(int what) {
        return what == 0 ? faultKind : what == 1 ? faultPlace : NONE;
    }

    int has(int what) {
        boolean any = sound != null;
        switch (what) {
            case 0: return any ? sound.last : 0;
            case 1: return now.boats.size();
            case 2: return any ? sound.riders.size() : 0;
            case 3: return any ? sound.wolves.size() : 0;
            case 4: return now.hour;
            case 5: return (int) now.boats.stream().filter(this::landed).count();
            case 6: return (int) now.boats.stream().filter(b -> b.sunk).count();
            case 7: return now.kept.size();
            case 8: return seen.size();
            case 9: return acts.size();
            default: return NONE;
        }
    }

    int letter(int kind, int which, int k) {
        String name = null;
        if (kind == 0 && !none(which)) {
            name = now.boats.get(which).name;
        } else if (kind == 1 && sound != null && which >= 0 && which < sound.riders.size()) {
            name = sound.riders.get(which);
        }
        if (name == null || k < 0 || k > 5) {
            return NONE;
        }
        return k < name.length() ? name.charAt(k) - 'a' + 1 : 0;
    }

    int boat(int boat, int what) {
        if (none(boat) || what < 0 || what > 6) {
            return NONE;
        }
        Boat b = now.boats.get(boat);
        return new int[] {b.mile, b.tight, b.rosin, b.sunk ? 1 : 0, landed(b) ? 1 : 0, b.score.size(), b.place}[what];
    }

    int score(int boat, int k) {
        return none(boat) || k < 0 || k >= now.boats.get(boat).score.size() ? NONE : now.boats.get(boat).score.get(k);
    }

    long carry(int boat, int note) {
        return none(boat) || note < 0 || note > 7 ? NOTHING : reach(now.boats.get(boat), note, sound.wind);
    }

    int wolf(int mile, int note) {
        if (sound == null || mile < 0 || mile > sound.last || note < 0 || note > 7) {
            return NONE;
        }
        return sound.wolves.contains(mile + "/" + note) ? 1 : 0;
    }

    int rider(int rider) {
        return sound == null || rider < 0 || rider >= sound.keys.size() ? NONE : sound.keys.get(rider);
    }

    int kept(int k, int what) {
        return k < 0 || k >= now.kept.size() || what < 0 || what > 2 ? NONE : now.kept.get(k)[what];
    }

    int later(int boat, int n, int what) {
        if (none(boat) || n < 0 || n > ahead(60) || what < 0 || what > 3) {
            return NONE;
        }
        Boat b = behind(now.boats.get(boat), n);
        return new int[] {b.mile, b.tight, b.rosin, b.sunk ? 1 : 0}[what];
    }

    int lands(int boat) {
        return none(boat) ? NONE : landsIn(now.boats.get(boat), ahead(60));
    }

    int cat(int what) {
        for (int k = 0; k < ahead(60); k++) {
            for (int i = 0; i < now.boats.size(); i++) {
                Boat b = now.boats.get(i);
                if (!behind(b, k).sunk && behind(b, k + 1).sunk) {
                    return what == 0 ? k : what == 1 ? i : NONE;
                }
            }
        }
        return NONE;
    }

    int meets(int one, int other) {
        if (none(one) || none(other) || one == other) {
            return NONE;
        }
        for (int k = 0; k <= ahead(60); k++) {
            if (behind(now.boats.get(one), k).mile == behind(now.boats.get(other), k).mile) {
                return k;
            }
        }
        return NONE;
    }

    int plan(int boat, int mile, int k) {
        if (none(boat) || mile < 0 || mile > sound.last || k < -1 || now.boats.get(boat).sunk) {
            return NONE;
        }
        for (int length = 0; length <= 5; length++) {
            for (int row = 0; row < 1 << 3 * length; row++) {
                Boat b = now.boats.get(boat).copy();
                for (int i = 0; i < length && !b.sunk && !landed(b); i++) {
                    bow(b, row >> 3 * (length - 1 - i) & 7, sound.wind);
                }
                if (!b.sunk && b.mile == mile) {
                    return k == NONE ? length : k < length ? row >> 3 * (length - 1 - k) & 7 : NONE;
                }
            }
        }
        return NONE;
    }

    int strung(int boat, int n, int what) {
        if (none(boat) || n < 1 || n > ahead(30) || landed(now.boats.get(boat)) || what < 0 || what > 1) {
            return NONE;
        }
        for (int k = 1; k <= n; k++) {
            for (int tight = 0; tight <= 99; tight++) {
                Boat b = now.boats.get(boat).copy();
                b.tight = tight;
                if (landed(behind(b, k))) {
                    return what == 0 ? tight : k;
                }
            }
        }
        return NONE;
    }

    int better(int boat, int n, int what) {
        if (none(boat) || n < 1 || n > ahead(30) || what < 0 || what > 2) {
            return NONE;
        }
        Boat b = now.boats.get(boat);
        for (int k = 0; k <= n && !landed(behind(b, k)); k++) {
            for (int place = 0; place < b.score.size(); place++) {
                for (int note = 0; note < 8; note++) {
                    Boat c = b.copy();
                    c.score.set(place, note);
                    if (note != b.score.get(place) && landed(behind(c, k))) {
                        return new int[] {place, note, k}[what];
                    }
                }
            }
        }
        return NONE;
    }

    int rides(int rider) {
        if (sound == null || rider < -1 || rider >= sound.keys.size()) {
            return NONE;
        }
        int riders = sound.keys.size();
        int best = -1;
        int[] bestRow = new int[riders];
        int all = (int) Math.pow(now.boats.size() + 1, riders);
        for (int code = 0; code < all; code++) {
            int[] row = new int[riders];
            int rest = code;
            for (int r = riders - 1; r >= 0; r--) {
                row[r] = rest % (now.boats.size() + 1) - 1;
                rest /= now.boats.size() + 1;
            }
            int count = riding(row);
            if (count > best) {
                best = count;
                bestRow = row;
            }
        }
        return rider == NONE ? best : bestRow[rider];
    }

    /** How many ride by a row; -1 if it can't be. */
    private int riding(int[] row) {
        int[] on = new int[6];
        int count = 0;
        for (int r = 0; r < row.length; r++) {
            if (row[r] == NONE) {
                continue;
            }
            Boat b = now.boats.get(row[r]);
            count++;
            if (++on[row[r]] > 2 || landed(b) || b.sunk || !b.score.contains(sound.keys.get(r))) {
                return -1;
            }
        }
        return count;
    }

    int see() {
        List<Integer> bytes = new ArrayList<>(tape);
        tape.clear();
        boolean fine = sound != null && bytes.size() >= 2 && bytes.size() <= 32 && bytes.size() % 2 == 0;
        List<int[]> rows = new ArrayList<>();
        for (int i = 0; fine && i < bytes.size(); i += 2) {
            fine = bytes.get(i) <= 30 && bytes.get(i + 1) <= 8;
            rows.add(new int[] {bytes.get(i), bytes.get(i + 1)});
        }
        if (!fine) {
            return refuse(1);
        }
        seen = rows;
        return rows.size();
    }

    private int noteIn(int boat, int k) {
        return hour(behind(now.boats.get(boat), k), sound.wind);
    }

    int which() {
        int bits = 0;
        for (int i = 0; i < now.boats.size(); i++) {
            boolean so = true;
            for (int[] row : seen) {
                so &= row[0] < ahead(60) && noteIn(i, row[0]) == row[1];
            }
            bits |= so ? 1 << i : 0;
        }
        return bits;
    }

    int tells(int what) {
        int bits = which();
        int best = 99;
        int hour = NONE;
        for (int k = 0; k <= 30 && k < ahead(60) && bits != 0; k++) {
            int[] count = new int[9];
            for (int i = 0; i < now.boats.size(); i++) {
                if ((bits & 1 << i) != 0) {
                    count[noteIn(i, k)]++;
                }
            }
            int most = Arrays.stream(count).max().getAsInt();
            if (most < best) {
                best = most;
                hour = k;
            }
        }
        return hour == NONE ? NONE : what == 0 ? hour : what == 1 ? best : NONE;
    }

    boolean tune(int boat, int tight) {
        if (none(boat) || tight < 0 || tight > 99 || now.boats.get(boat).tight == tight) {
            refuse(2);
            return false;
        }
        act();
        now.boats.get(boat).tight = tight;
        return true;
    }

    int rosin(int boat, int much) {
        if (none(boat) || much < 1 || much > 99 || now.boats.get(boat).rosin == 99) {
            return refuse(2);
        }
        act();
        Boat b = now.boats.get(boat);
        b.rosin = Math.min(99, b.rosin + much);
        return b.rosin;
    }

    boolean raise(int boat) {
        if (none(boat) || !now.boats.get(boat).sunk) {
            refuse(2);
            return false;
        }
        act();
        now.boats.get(boat).sunk = false;
        return true;
    }

    boolean note(int boat, int k, int note) {
        if (score(boat, k) == NONE || note < 0 || note > 7 || score(boat, k) == note) {
            refuse(2);
            return false;
        }
        act();
        now.boats.get(boat).score.set(k, note);
        return true;
    }

    private int pass(int wind) {
        int landed = 0;
        for (int i = 0; i < now.boats.size(); i++) {
            Boat b = now.boats.get(i);
            if (hour(b, wind) != 8 && (landed(b) || b.sunk)) {
                landed += landed(b) ? 1 : 0;
                now.kept.add(new int[] {now.hour, i, landed(b) ? 1 : 0});
                if (now.kept.size() > 40) {
                    now.kept.remove(0);
                }
            }
        }
        now.hour++;
        return landed;
    }

    int hours(int n) {
        if (sound == null || n < 1 || n > 100 || now.hour + n > 999) {
            return refuse(3);
        }
        act();
        int landed = 0;
        for (int i = 0; i < n; i++) {
            landed += pass(sound.wind);
        }
        return landed;
    }

    private int draw(int m) {
        seed = (1103515245L * seed + 12345) % (1L << 31);
        return (int) (seed / 64 % m);
    }

    int chance(int n) {
        if (sound == null || n < 1 || n > 100 || now.hour + n > 999) {
            return refuse(3);
        }
        act();
        int squalls = 0;
        for (int i = 0; i < n; i++) {
            boolean squall = draw(100) < sound.squall;
            squalls += squall ? 1 : 0;
            pass(squall ? draw(10) : sound.wind);
        }
        return squalls;
    }

    boolean undo() {
        if (acts.isEmpty()) {
            refuse(4);
            return false;
        }
        now = acts.removeLast();
        return true;
    }

    boolean seed(int x) {
        if (x < 0) {
            refuse(5);
            return false;
        }
        seed = x;
        return true;
    }

    long ask() {
        String text = tapeText();
        if (sound == null) {
            return NOTHING;
        }
        try {
            Parser p = new Parser(text);
            p.sort = "question";
            String w = p.word();
            boolean isTest = w.equals("first") || w.equals("last") || w.equals("often");
            if (!isTest && !w.equals("total") && !w.equals("most") && !w.equals("least")) {
                throw p.one();
            }
            p.pos += w.length();
            Test test = isTest ? p.test() : null;
            Sum sum = isTest ? null : p.sum();
            if (p.peek() != 999) {
                throw p.one();
            }
            faultKind = 0;
            faultPlace = NONE;
            return answer(w, test, sum);
        } catch (Fault f) {
            faultKind = f.kind;
            faultPlace = f.place;
            return NOTHING;
        }
    }

    private long answer(String w, Test test, Sum sum) {
        List<Long> values = new ArrayList<>();
        for (int i = 0; i < now.boats.size(); i++) {
            View v = new View();
            v.boat = now.boats.get(i);
            v.number = i;
            v.wind = sound.wind;
            v.note = v.boat.score.isEmpty() ? -1 : v.boat.score.get(v.boat.place);
            if (test == null) {
                values.add(sum.of(v));
            } else if (test.of(v)) {
                values.add((long) i);
            }
        }
        switch (w) {
            case "first": return values.isEmpty() ? NONE : values.get(0);
            case "last": return values.isEmpty() ? NONE : values.get(values.size() - 1);
            case "often": return values.size();
            case "total": return values.stream().mapToLong(x -> x).sum();
            case "most": return values.stream().mapToLong(x -> x).max().orElse(0);
            default: return values.stream().mapToLong(x -> x).min().orElse(0);
        }
    }

    private static int check(List<Integer> bytes) {
        int c = 193;
        for (int b : bytes) {
            c = (3 * c + b) % 251;
        }
        return c;
    }

    int image() {
        List<Integer> bytes = new ArrayList<>(Arrays.asList(now.hour / 256, now.hour % 256));
        for (Boat b : now.boats) {
            bytes.addAll(Arrays.asList(b.mile, b.tight, b.rosin, b.sunk ? 1 : 0, b.place));
            bytes.addAll(b.score);
        }
        bytes.add(check(bytes));
        image = bytes.stream().mapToInt(x -> x).toArray();
        return image.length;
    }

    int octet(int k) {
        return k < 0 || k >= image.length ? NONE : image[k];
    }

    boolean on() {
        List<Integer> bytes = new ArrayList<>(tape);
        tape.clear();
        State s = sound == null ? null : stateOf(bytes);
        if (s == null) {
            refuse(5);
            return false;
        }
        now = s;
        acts.clear();
        return true;
    }

    private State stateOf(List<Integer> bytes) {
        int length = 3;
        for (Boat b : now.boats) {
            length += 5 + b.score.size();
        }
        if (bytes.size() != length || check(bytes.subList(0, length - 1)) != bytes.get(length - 1)) {
            return null;
        }
        State s = new State();
        s.hour = bytes.get(0) * 256 + bytes.get(1);
        boolean fine = s.hour <= 999;
        int at = 2;
        for (Boat b : now.boats) {
            Boat c = b.copy();
            c.mile = bytes.get(at);
            c.tight = bytes.get(at + 1);
            c.rosin = bytes.get(at + 2);
            int sunk = bytes.get(at + 3);
            c.sunk = sunk == 1;
            c.place = bytes.get(at + 4);
            at += 5;
            for (int k = 0; k < c.score.size(); k++) {
                c.score.set(k, bytes.get(at));
                fine &= bytes.get(at++) <= 7;
            }
            fine &= c.mile <= sound.last && c.tight <= 99 && c.rosin <= 99 && sunk <= 1 && !(c.sunk && landed(c));
            fine &= c.score.isEmpty() ? c.place == 0 : c.place < c.score.size();
            s.boats.add(c);
        }
        return fine ? s : null;
    }

    int status(int what) {
        return what < 0 || what > 5 ? NONE : refused[what];
    }
}
