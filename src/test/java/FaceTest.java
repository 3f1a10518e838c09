import java.io.IOException;
import java.lang.reflect.Constructor;
import java.lang.reflect.Field;
import java.lang.reflect.Method;
import java.lang.reflect.Modifier;
import java.nio.file.Files;
import java.nio.file.Path;
import java.util.HashSet;
import java.util.List;
import java.util.Set;
import java.util.TreeSet;
import java.util.regex.Matcher;
import java.util.regex.Pattern;

/** The public face, and rules of LANGUAGE.md that can be told from the text or the compiled class. */
public final class FaceTest {
    private static final Set<String> FACE = Set.of(
        "int tell(long)", "int settings()", "int fault(boolean)", "int start()", "boolean stop()", "int draw(int)",
        "int hand(int,int)", "int take(int)", "int count(int)", "int limit(int)", "long odds(int,boolean)",
        "int history(int)", "int pool(int)", "int row(int,int,boolean)", "int bound(int,int,boolean)",
        "int holds(int)", "int claim(int)", "int tuple(int,int)", "boolean spreads(int,int)", "int lag(int,int)",
        "int echo(int)", "int compared(int)", "int longest(int,boolean)", "int ahead(int,int)", "int quiet()",
        "int replayed(int)", "int fit()", "int keen()", "boolean image(int)", "boolean again(int)");
    private static final String[] BANNED = {
        "->", "::", "finally", "synchronized", "assert ", "catch", "try ", "getMessage", "Exact(", "String.format",
        "System.out", "System.nano", "System.current", "Random", "Thread", "hashCode", "toString", ".ordinal",
        "instanceof Object", "static {", "protected "};

    private static String signature(Method m) {
        StringBuilder text = new StringBuilder(m.getReturnType().getSimpleName()).append(' ').append(m.getName())
            .append('(');
        for (Class<?> p : m.getParameterTypes()) {
            text.append(text.charAt(text.length() - 1) == '(' ? "" : ",").append(p.getSimpleName());
        }
        return text.append(')').toString();
    }

    private static void face(Check check) throws ReflectiveOperationException {
        Set<String> names = new HashSet<>();
        Set<String> found = new TreeSet<>();
        for (Method m : NoiseWatch.class.getDeclaredMethods()) {
            if (!Modifier.isPrivate(m.getModifiers())) {
                found.add(signature(m));
                names.add(m.getName());
                check.same(m + " is public", Modifier.isPublic(m.getModifiers()), true);
            }
        }
        check.same("face " + found, found.equals(new TreeSet<>(FACE)), true);
        for (Class<?> c : NoiseWatch.class.getDeclaredClasses()) {
            check.same(c + " is static and no public one",
                Modifier.isStatic(c.getModifiers()) && !Modifier.isPublic(c.getModifiers()), true);
            for (Method m : c.getDeclaredMethods()) {
                check.same(m + " bears a name of the face", names.contains(m.getName()), false);
            }
            check.same(c + " has at most 20 fields", c.getDeclaredFields().length <= 20, true);
        }
        check.same("classes", NoiseWatch.class.getDeclaredClasses().length <= 11, true);
        for (Method m : NoiseWatch.class.getDeclaredMethods()) {
            if (Modifier.isPrivate(m.getModifiers())) {
                check.same(m + " bears a name of the face", names.contains(m.getName()), false);
            }
        }
        for (Field f : NoiseWatch.class.getDeclaredFields()) {
            check.same(f + " is private", Modifier.isPrivate(f.getModifiers()) || f.getName().equals("NONE"), true);
            check.same(f + " is final", Modifier.isFinal(f.getModifiers()), true);
        }
        check.same("NONE", NoiseWatch.class.getField("NONE").getInt(null), -1);
        Constructor<?>[] made = NoiseWatch.class.getDeclaredConstructors();
        check.same("constructors", made.length, 1);
        check.same("the constructor is public", Modifier.isPublic(made[0].getModifiers()), true);
        check.same("the class is public and final", NoiseWatch.class.getModifiers() & (Modifier.PUBLIC | Modifier.FINAL),
            Modifier.PUBLIC | Modifier.FINAL);
    }

    private static void text(Check check, List<String> lines) {
        Pattern head = Pattern.compile("^( {8}| {4}(?! ))(?!class|return|throw)[\\w\\[\\] ]+\\(([^)]*)\\)[^;]*\\{$");
        int from = -1;
        String indent = "";
        for (int i = 0; i < lines.size(); i++) {
            String line = lines.get(i);
            for (String word : BANNED) {
                check.same("line " + (i + 1) + " has " + word, line.contains(word), false);
            }
            for (char sign : line.toCharArray()) {
                check.same("line " + (i + 1) + " is plain", sign >= 32 && sign < 127, true);
            }
            Matcher m = head.matcher(line);
            if (from < 0 && m.matches()) {
                from = i;
                indent = m.group(1);
                check.same("parameters, line " + (i + 1), m.group(2).split(",").length <= 7, true);
            } else if (from >= 0 && line.equals(indent + "}")) {
                check.same("a method of " + (i - from + 1) + " lines, line " + (from + 1), i - from < 60, true);
                from = -1;
            }
            if (line.startsWith("import ")) {
                check.same(line, line.equals("import java.util.Arrays;")
                    || line.equals("import java.util.NoSuchElementException;"), true);
            }
        }
    }

    public static void main(String[] args) throws IOException, ReflectiveOperationException {
        Check check = new Check();
        check.part("face");
        face(check);
        check.part("text");
        text(check, Files.readAllLines(Path.of("src/main/java/NoiseWatch.java")));
        check.end("FaceTest");
    }
}
