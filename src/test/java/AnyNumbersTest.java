import java.lang.reflect.InvocationTargetException;
import java.lang.reflect.Method;
import java.lang.reflect.Modifier;

/** LANGUAGE.md 7: no call throws, whatever its numbers are, in any state. */
public final class AnyNumbersTest {
    private static final int[] NUMBERS = {Integer.MIN_VALUE, -1073741824, -100, -2, -1, 0, 1, 2, 5, 6, 7, 8, 30, 31, 60, 61, 99, 100,
        999, 1600, 1073741824, Integer.MAX_VALUE};
    private static final String FULL = "sound 60;" + fleet() + "carry note-mile/7+rosin/9;slips tight+note-5;swamp tight>95 and went<2;squall 60;";

    public static void main(String[] args) throws IllegalAccessException {
        String[] sounds = {"", "sound 5;", "sound 9;boat a at 0 tight 0 rosin 0;", "sound 9;rider r key 1;", FULL};
        for (String sound : sounds) {
            for (Method call : CelloBoats.class.getDeclaredMethods()) {
                if (Modifier.isPublic(call.getModifiers())) {
                    callAll(sound, call);
                }
            }
        }
        Check.finish();
    }

    private static String fleet() {
        StringBuilder text = new StringBuilder();
        for (int k = 0; k < 6; k++) {
            char c = (char) ('a' + k);
            text.append("boat ").append(c).append(" at ").append(k * 12).append(" tight ").append(99 - k).append(" rosin ").append(k * 19).append(";");
            text.append("rider r").append(c).append(" key ").append(k).append(";");
            for (int n = 0; n < 6; n++) {
                text.append("score ").append(c).append(" ").append((k + n) % 8).append(";");
            }
        }
        return text.toString();
    }

    /** All pairs of the numbers in the first two places; the others by turns. */
    private static void callAll(String sound, Method call) throws IllegalAccessException {
        int places = call.getParameterCount();
        CelloBoats x = fresh(sound);
        int calls = 0;
        for (int i = 0; i < (places > 0 ? NUMBERS.length : 1); i++) {
            for (int j = 0; j < (places > 1 ? NUMBERS.length : 1); j++) {
                for (int k = 0; k < (places > 2 ? NUMBERS.length : 1); k += 3) {
                    Object[] numbers = new Object[places];
                    for (int p = 0; p < places; p++) {
                        numbers[p] = NUMBERS[p == 0 ? i : p == 1 ? j : (k + i + j + p) % NUMBERS.length];
                    }
                    if (++calls % 400 == 0) {
                        x = fresh(sound);
                    }
                    Check.due(call.getName() + java.util.Arrays.toString(numbers) + " throws", throwsBy(x, call, numbers), false);
                }
            }
        }
    }

    private static CelloBoats fresh(String sound) {
        CelloBoats x = new CelloBoats();
        Check.put(x, sound);
        x.sound();
        x.hours(1);
        return x;
    }

    private static boolean throwsBy(CelloBoats x, Method call, Object[] numbers) throws IllegalAccessException {
        try {
            call.invoke(x, numbers);
            return false;
        } catch (InvocationTargetException e) {
            System.out.println(e.getCause());
            return true;
        }
    }
}
