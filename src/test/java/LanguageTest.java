import java.lang.reflect.Constructor;
import java.lang.reflect.Field;
import java.lang.reflect.Method;
import java.lang.reflect.Modifier;
import java.nio.file.Files;
import java.nio.file.Path;
import java.util.Set;
import java.util.TreeSet;
import java.util.regex.Matcher;
import java.util.regex.Pattern;

/** The face of the document, and what of LANGUAGE.md can be seen from the text and from the class. */
final class LanguageTest {
    private static final String FACE = "station(int,int,int,int) window(int,int,int,int) ahead(int,int) fit(int,int,boolean) "
        + "speed(int) cast(int,int,int) bottle(int,int) fail(int,int) hand(int) feed(int,long) lines(int) fault(int) "
        + "does(int) rest(int) use(int,boolean) takeUp(int) readings(int,int) plan(int) planned(int,int) "
        + "stationTold(int,int) castTold(int,int) bottleTold(int,int,int) sample(int,int) box(int,int) water(int,int) "
        + "mean(int,int,int,int) count(int) act(int,int,int) trace(int) sheet(int,int,int) cell(int,int,int) "
        + "none(int,int) forge(int,int,int) status()";
    private static final String[] BANNED = {"throw", "throws", "try", "catch", "finally", "synchronized", "assert", "volatile",
        "Exact", "System\\.(?!arraycopy)", "Random", "Thread", "->", "::", "double", "float", "hashCode", "toString",
        "protected", "package", "nanoTime", "Math\\.random", "static \\{"};

    private LanguageTest() {
    }

    private static void face() {
        Set<String> found = new TreeSet<>();
        for (Method m : WaterCruise.class.getDeclaredMethods()) {
            if (!Modifier.isPrivate(m.getModifiers())) {
                StringBuilder s = new StringBuilder(m.getName()).append('(');
                for (Class<?> p : m.getParameterTypes()) {
                    s.append(s.charAt(s.length() - 1) == '(' ? "" : ",").append(p.getName());
                }
                found.add(s.append(')').toString());
                Check.due(m.getName() + " is public", Modifier.isPublic(m.getModifiers()) && !Modifier.isStatic(m.getModifiers()));
                Check.due(m.getName() + " answers an int", m.getReturnType() == int.class);
            }
        }
        Check.due("the face's methods " + found, found.equals(new TreeSet<>(Set.of(FACE.split(" ")))));
        Check.due("public and final", WaterCruise.class.getModifiers() == (Modifier.PUBLIC | Modifier.FINAL));
        Constructor<?>[] made = WaterCruise.class.getDeclaredConstructors();
        Check.due("one constructor", made.length == 1 && Modifier.isPublic(made[0].getModifiers())
            && made[0].getParameterCount() == 0);
        Set<String> fields = new TreeSet<>();
        for (Field f : WaterCruise.class.getDeclaredFields()) {
            if (!Modifier.isPrivate(f.getModifiers())) {
                fields.add(f.getName());
            }
        }
        Check.due("the face's constants " + fields, fields.equals(new TreeSet<>(Set.of("NONE", "NO"))));
    }

    private static void classes() {
        Set<String> face = new TreeSet<>();
        for (String m : FACE.split(" ")) {
            face.add(m.substring(0, m.indexOf('(')));
        }
        Class<?>[] inside = WaterCruise.class.getDeclaredClasses();
        Check.due("at most twelve classes", inside.length + 1 <= 12);
        for (Class<?> c : inside) {
            Check.due(c.getName() + " is static", Modifier.isStatic(c.getModifiers()));
            members(c);
            for (Method m : c.getDeclaredMethods()) {
                Check.due(c.getName() + "." + m.getName() + " has a name of its own", !face.contains(m.getName()));
            }
        }
        members(WaterCruise.class);
    }

    private static void members(Class<?> c) {
        int fields = 0;
        for (Field f : c.getDeclaredFields()) {
            fields += Modifier.isStatic(f.getModifiers()) ? 0 : 1;
            Check.due(c.getName() + "." + f.getName() + " static and final",
                !Modifier.isStatic(f.getModifiers()) || Modifier.isFinal(f.getModifiers()));
        }
        Check.due(c.getName() + " has at most twenty fields", fields <= 20);
        for (Method m : c.getDeclaredMethods()) {
            Check.due(c.getName() + "." + m.getName() + " takes at most seven", m.getParameterCount() <= 7);
        }
    }

    private static void text(String source) {
        String code = source.replaceAll("(?s)/\\*.*?\\*/", "").replaceAll("//[^\n]*", "");
        for (String word : BANNED) {
            String pattern = Character.isLetter(word.charAt(0)) ? "\\b" + word + (word.endsWith(")") ? "" : "\\b") : word;
            Check.due("no " + word, !Pattern.compile(pattern).matcher(code).find());
        }
        Check.due("no name that ends in Exact", !code.contains("Exact("));
        Check.due("signs 1 to 127", source.chars().allMatch(c -> c < 128));
        Matcher imports = Pattern.compile("import ([^;]*);").matcher(code);
        while (imports.find()) {
            Check.due("import " + imports.group(1), imports.group(1).equals("java.util.Arrays"));
        }
        library(code);
        methodLengths(source.split("\n"));
    }

    /** Rule 4 as far as the class needs it: static functions alone, and no text but constants that are looked at. */
    private static void library(String code) {
        Set<String> may = Set.of("Arrays.fill(", "System.arraycopy(", "Math.max(", "Math.min(", "Math.abs(", "Math.floorMod(");
        Matcher used = Pattern.compile("\\b(Arrays|System|Math|Integer|Long|String|Character|Boolean|Byte)\\.\\w+\\(?").matcher(code);
        while (used.find()) {
            Check.due("the library's " + used.group(), may.contains(used.group()));
        }
    }

    private static void methodLengths(String[] lines) {
        int from = -1;
        String indent = "";
        for (int i = 0; i < lines.length; i++) {
            Matcher m = Pattern.compile("^( {4}| {8})(?!.*\\bclass\\b)[a-zA-Z].*\\) \\{$").matcher(lines[i]);
            if (from < 0 && m.find()) {
                from = i;
                indent = m.group(1);
            } else if (from >= 0 && lines[i].equals(indent + "}")) {
                Check.due("method of line " + (from + 1) + " is short", i - from < 60);
                from = -1;
            }
        }
        Check.due("all methods end", from, -1);
    }

    public static void main(String[] args) throws Exception {
        String root = args.length > 0 ? args[0] : ".";
        face();
        classes();
        text(Files.readString(Path.of(root, "src", "main", "java", "WaterCruise.java")));
        Check.end();
    }
}
