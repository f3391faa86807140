import java.nio.charset.StandardCharsets;

/** What the tests share: putting bytes on a tape, and comparing answers. */
final class Check {
    private static int wrong = 0;
    private static int right = 0;
    private static String about = "";

    private Check() {
    }

    /** Stands ahead of what is printed from now on. */
    static void about(String words) {
        about = words;
    }

    static void due(String what, long got, long want) {
        if (got == want) {
            right++;
        } else {
            wrong++;
            System.out.println(about + what + " answered " + got + ", due is " + want);
        }
    }

    static void due(String what, boolean got, boolean want) {
        due(what, got ? 1 : 0, want ? 1 : 0);
    }

    /** Exits with 1 if an answer was wrong. */
    static void finish() {
        System.out.println(right + " answers as due, " + wrong + " not");
        if (wrong != 0) {
            System.exit(1);
        }
    }

    static void put(CelloBoats x, String text) {
        put(x, text.getBytes(StandardCharsets.ISO_8859_1));
    }

    static void put(CelloBoats x, byte[] bytes) {
        int size = 0;
        for (int i = 0; i < bytes.length; i += 20) {
            int[] numbers = new int[5];
            for (int k = 0; k < 20; k++) {
                int b = i + k < bytes.length ? bytes[i + k] & 255 : 32;
                numbers[k / 4] = numbers[k / 4] << 8 | b;
            }
            size = x.feed(numbers[0], numbers[1], numbers[2], numbers[3], numbers[4]);
        }
        if (bytes.length > 0 && size < bytes.length) {
            throw new IllegalStateException("the tape was not empty, or the text is too long");
        }
        x.end(bytes.length);
    }

    /** A new object with this sound, which must have no fault. */
    static CelloBoats with(String text) {
        CelloBoats x = new CelloBoats();
        put(x, text);
        int statements = x.sound();
        if (statements < 1) {
            due("fault(0) of " + text, x.fault(0), 0);
            due("fault(1) of " + text, x.fault(1), -1);
        }
        return x;
    }

    static long ask(CelloBoats x, String text) {
        put(x, text);
        return x.ask();
    }

    static void asked(CelloBoats x, String text, long want) {
        due(text, ask(x, text), want);
        due("fault(0) of " + text, x.fault(0), 0);
        due("fault(1) of " + text, x.fault(1), -1);
    }

    static void askFault(CelloBoats x, String text, int fault, int place) {
        due(text, ask(x, text), CelloBoats.NOTHING);
        due("fault(0) of " + text, x.fault(0), fault);
        due("fault(1) of " + text, x.fault(1), place);
    }

    static void soundFault(String text, int fault, int place) {
        CelloBoats x = new CelloBoats();
        put(x, text);
        due("sound() of " + text, x.sound(), -1);
        due("fault(0) of " + text, x.fault(0), fault);
        due("fault(1) of " + text, x.fault(1), place);
        due("status(1) of " + text, x.status(1), 1);
        due("has(0) of " + text, x.has(0), 0);
    }

    static void soundFine(String text, int statements) {
        CelloBoats x = new CelloBoats();
        put(x, text);
        due("sound() of " + text, x.sound(), statements);
        due("fault(0) of " + text, x.fault(0), 0);
        due("fault(1) of " + text, x.fault(1), -1);
        due("status(1) of " + text, x.status(1), 0);
    }

    static int see(CelloBoats x, int... rows) {
        put(x, bytes(rows));
        return x.see();
    }

    static byte[] bytes(int... numbers) {
        byte[] row = new byte[numbers.length];
        for (int i = 0; i < row.length; i++) {
            row[i] = (byte) numbers[i];
        }
        return row;
    }

    /** The latest image. */
    static int[] octets(CelloBoats x, int size) {
        int[] row = new int[size];
        for (int i = 0; i < size; i++) {
            row[i] = x.octet(i);
        }
        return row;
    }

    /** An image's bytes with the last one made to fit. */
    static byte[] image(int... ahead) {
        int c = 193;
        byte[] row = new byte[ahead.length + 1];
        for (int i = 0; i < ahead.length; i++) {
            c = (3 * c + ahead[i]) % 251;
            row[i] = (byte) ahead[i];
        }
        row[ahead.length] = (byte) c;
        return row;
    }
}
