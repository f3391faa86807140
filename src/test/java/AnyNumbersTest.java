import java.lang.reflect.InvocationTargetException;
import java.lang.reflect.Method;
import java.lang.reflect.Modifier;
import java.util.Random;

/** LANGUAGE.md 7: no call throws, whatever its numbers are, whatever is on the tape, in any state. */
public final class AnyNumbersTest {
    private static final int[] NUMBERS = {Integer.MIN_VALUE, -1073741824, -100, -2, -1, 0, 1, 2, 5, 6, 7, 8, 30, 31, 60, 61, 99, 100,
        999, 1600, 1073741824, Integer.MAX_VALUE};
    private static final String FULL = "sound 60;" + fleet() + "carry note-mile/7+rosin/9;slips tight+note-5;swamp tight>95 and went<2;squall 60;";

    public static void main(String[] args) throws IllegalAccessException {
        String[] sounds = {"", "sound 5;", "sound 9;boat a at 0 tight 0 rosin 0;", "sound 9;rider r key 1;", FULL};
        for (String sound : sounds) {
            for (Method call : CelloBoats.class.getDeclaredMethods()) {
                if (Modifier.isPublic(call.getModifiers())) {
                    callAll(sound, call);
                }
            }
            anyTapes(sound);
        }
        Check.finish();
    }

    /** Words, signs and bytes in any order, taken as a sound, a question, rows seen, an image. */
    private static void anyTapes(String sound) throws IllegalAccessException {
        String[] pieces = ("sound 9;|boat |a|b|at 1 |tight 2 |rosin 3|;|score a 1;|wolf 1 1;|rider r key 1;|carry |slips |swamp |note|mile|went|"
            + "number|1|23|456|7890|+|-|*|/|<|>|=|(|)|[|]|,| |\n|min(|max(|not |all| and | or |first |last |often |total |most |least |"
            + "\u0000|\u0001|\u0007|\u00ff|hour|sunk|abcdefgh|12345").split("\\|");
        Random random = new Random(sound.length());
        for (int i = 0; i < 2000; i++) {
            StringBuilder text = new StringBuilder(i % 4 == 0 ? "sound 9;" : i % 4 == 1 ? "total " : i % 4 == 2 ? "often " : "");
            for (int k = random.nextInt(i % 50 == 0 ? 200 : 20); k > 0; k--) {
                text.append(pieces[random.nextInt(pieces.length)]);
            }
            String tape = text.substring(0, Math.min(1600, text.length()));
            for (String name : new String[] {"ask", "see", "on", "sound"}) {
                CelloBoats x = fresh(sound);
                Check.put(x, tape);
                Check.due(name + " of " + tape + " throws", throwsBy(x, callNamed(name), new Object[0]), false);
            }
        }
    }

    private static Method callNamed(String name) {
        for (Method call : CelloBoats.class.getDeclaredMethods()) {
            if (call.getName().equals(name)) {
                return call;
            }
        }
        throw new IllegalStateException(name);
    }

    private static String fleet() {
        StringBuilder text = new StringBuilder();
        for (int k = 0; k < 6; k++) {
            char c = (char) ('a' + k);
            text.append("boat ").append(c).append(" at ").append(k * 12).append(" tight ").append(99 - k).append(" rosin ").append(k * 19).append(";");
            text.append("rider r").append(c).append(" key ").append(k).append(";");
            for (int n = 0; n < 6; n++) {
                text.append("score ").append(c).append(" ").append((k + n) % 8).append(";");
            }
        }
        return text.toString();
    }

    /** All pairs of the numbers in the first two places; the others by turns. */
    private static void callAll(String sound, Method call) throws IllegalAccessException {
        int places = call.getParameterCount();
        CelloBoats x = fresh(sound);
        int calls = 0;
        for (int i = 0; i < (places > 0 ? NUMBERS.length : 1); i++) {
            for (int j = 0; j < (places > 1 ? NUMBERS.length : 1); j++) {
                for (int k = 0; k < (places > 2 ? NUMBERS.length : 1); k += 3) {
                    Object[] numbers = new Object[places];
                    for (int p = 0; p < places; p++) {
                        numbers[p] = NUMBERS[p == 0 ? i : p == 1 ? j : (k + i + j + p) % NUMBERS.length];
                    }
                    if (++calls % 400 == 0) {
                        x = fresh(sound);
                    }
                    Check.due(call.getName() + java.util.Arrays.toString(numbers) + " throws", throwsBy(x, call, numbers), false);
                }
            }
        }
    }

    private static CelloBoats fresh(String sound) {
        CelloBoats x = new CelloBoats();
        Check.put(x, sound);
        x.sound();
        x.hours(1);
        return x;
    }

    private static boolean throwsBy(CelloBoats x, Method call, Object[] numbers) throws IllegalAccessException {
        try {
            call.invoke(x, numbers);
            return false;
        } catch (InvocationTargetException e) {
            System.out.println(e.getCause());
            return true;
        }
    }
}
