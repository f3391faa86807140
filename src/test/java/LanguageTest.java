import java.io.IOException;
import java.lang.reflect.Constructor;
import java.lang.reflect.Field;
import java.lang.reflect.Method;
import java.lang.reflect.Modifier;
import java.nio.file.Files;
import java.nio.file.Path;
import java.util.Arrays;
import java.util.HashSet;
import java.util.Set;
import java.util.TreeSet;
import java.util.regex.Matcher;
import java.util.regex.Pattern;

/** The rules of LANGUAGE.md that a program can look at; run in the project's folder. */
public final class LanguageTest {
    private static final String FACE = "feed/5 end/1 sound/0 fault/1 has/1 letter/3 boat/2 score/2 carry/2 wolf/2 rider/1 kept/2 "
        + "later/3 lands/1 cat/1 meets/2 plan/3 strung/3 better/3 rides/1 see/0 which/0 tells/1 tune/2 rosin/2 raise/1 note/3 "
        + "hours/1 chance/1 undo/0 seed/1 ask/0 image/0 octet/1 on/0 status/1";

    public static void main(String[] args) throws IOException {
        face();
        classesInside();
        text(bare(Files.readString(Path.of("src/main/java/CelloBoats.java"))));
        Check.finish();
    }

    private static void fine(String what, boolean so) {
        Check.due(what, so, true);
    }

    private static void face() {
        Class<?> c = CelloBoats.class;
        fine("public and final", Modifier.isPublic(c.getModifiers()) && Modifier.isFinal(c.getModifiers()));
        Set<String> due = new TreeSet<>(Arrays.asList(FACE.split(" ")));
        Set<String> got = new TreeSet<>();
        for (Method m : c.getDeclaredMethods()) {
            if (Modifier.isPublic(m.getModifiers())) {
                got.add(m.getName() + "/" + m.getParameterCount());
            } else {
                fine(m + " is private", Modifier.isPrivate(m.getModifiers()) || m.isSynthetic());
            }
        }
        fine("the face: " + got, got.equals(due));
        Set<String> constants = new HashSet<>(Arrays.asList("NONE", "NOTHING"));
        for (Field f : c.getDeclaredFields()) {
            fine(f + " is private or a constant", Modifier.isPrivate(f.getModifiers()) != constants.contains(f.getName()));
        }
        Check.due("NONE", CelloBoats.NONE, -1);
        Check.due("NOTHING", CelloBoats.NOTHING, -1000000000000000L);
        Constructor<?>[] makers = c.getDeclaredConstructors();
        fine("one constructor", makers.length == 1 && Modifier.isPublic(makers[0].getModifiers()));
    }

    private static void classesInside() {
        Set<String> publicNames = new HashSet<>();
        for (String m : FACE.split(" ")) {
            publicNames.add(m.replaceAll("/.*", ""));
        }
        fine("at most twelve classes", CelloBoats.class.getDeclaredClasses().length < 12);
        fields(CelloBoats.class);
        for (Class<?> c : CelloBoats.class.getDeclaredClasses()) {
            fine(c + " is static", Modifier.isStatic(c.getModifiers()));
            fields(c);
            for (Method m : c.getDeclaredMethods()) {
                fine(m + " bears no public name", !publicNames.contains(m.getName()));
                fine(m + " has at most seven parameters", m.getParameterCount() <= 7);
            }
        }
    }

    private static void fields(Class<?> c) {
        int count = 0;
        for (Field f : c.getDeclaredFields()) {
            if (!Modifier.isStatic(f.getModifiers())) {
                count++;
                continue;
            }
            Class<?> t = f.getType();
            boolean plain = t == int.class || t == long.class || t == String.class;
            fine(f + " is a constant", plain && Modifier.isFinal(f.getModifiers()));
        }
        fine(c + " has at most twenty fields", count <= 20);
    }

    /** The source without comments, and with empty texts. */
    private static String bare(String source) {
        return source.replaceAll("(?s)/\\*.*?\\*/", "").replaceAll("//[^\n]*", "").replaceAll("\"[^\"\n]*\"", "\"\"");
    }

    private static void text(String source) {
        for (String word : new String[] {"throw", "throws", "try", "catch", "finally", "synchronized", "assert", "protected",
            "package", "volatile", "native", "var", "yield", "interface", "extends", "implements", "null", "Object"}) {
            fine("no " + word, !Pattern.compile("\\b" + word + "\\b").matcher(source).find());
        }
        for (String sign : new String[] {"->", "::", "@", "\"\" +", "+ \"\""}) {
            fine("no " + sign, !source.contains(sign));
        }
        Matcher imports = Pattern.compile("import ([^;]*);").matcher(source);
        while (imports.find()) {
            fine("import " + imports.group(1), imports.group(1).equals("java.util.Arrays"));
        }
        Set<String> library = new HashSet<>(Arrays.asList("Math.abs", "Math.max", "Math.min", "Math.floorDiv", "Arrays.fill", "System.arraycopy"));
        Matcher calls = Pattern.compile("\\b(Math|Arrays|System|Integer|Long|String|Character)\\.(\\w+)").matcher(source);
        while (calls.find()) {
            fine("library call " + calls.group(), library.contains(calls.group()));
        }
        methodLengths(source);
    }

    private static void methodLengths(String source) {
        int start = -1;
        String[] lines = source.split("\n");
        for (int i = 0; i < lines.length; i++) {
            if (lines[i].matches("(    |        )[a-zA-Z].*\\) \\{")) {
                start = i;
            } else if (start >= 0 && lines[i].matches("(    |        )\\}") && lines[i].indexOf('}') == indent(lines[start])) {
                fine("at most sixty lines: " + lines[start], i - start < 60);
                start = -1;
            }
        }
    }

    private static int indent(String line) {
        return line.length() - line.stripLeading().length();
    }
}
