import java.lang.reflect.Constructor;
import java.lang.reflect.Field;
import java.lang.reflect.Method;
import java.lang.reflect.Modifier;
import java.nio.charset.StandardCharsets;
import java.nio.file.Files;
import java.nio.file.Path;
import java.util.Arrays;
import java.util.Map;
import java.util.Set;
import java.util.TreeMap;
import java.util.TreeSet;
import java.util.regex.Matcher;
import java.util.regex.Pattern;

/** Those rules of LANGUAGE.md that can be seen from the source or the compiled class. */
public final class SourceTest {
    private static final Checks checks = new Checks();
    private static final String FACE = "place 1,street 3,way 2,days 1,rule 2,open 2,close 1,reach 2,whose 1,ofShop 2,foretold 1,harm 3,"
        + "site 1,best 3,found 1,feed 2,terms 2,inForce 3,gives 3,month 5,isShort 2,under 2,pay 2,owed 1,led 3,notice 1,ofNotice 2,"
        + "gain 2,spend 1,load 2,carts 1,cart 1,count 1";

    public static void main(String[] args) throws Exception {
        face();
        insideClasses();
        source(args.length > 0 ? args[0] : "src/main/java/BreadLands.java");
        checks.end();
    }

    private static void face() {
        checks.part("rule 1");
        Class<?> c = BreadLands.class;
        checks.holds(Modifier.isPublic(c.getModifiers()) && Modifier.isFinal(c.getModifiers()), "public and final");
        Set<String> due = new TreeSet<>(Arrays.asList(FACE.split(",")));
        Set<String> got = new TreeSet<>();
        Set<String> names = new TreeSet<>();
        for (Method m : c.getDeclaredMethods()) {
            if (Modifier.isPrivate(m.getModifiers())) continue;
            boolean plain = m.getReturnType() == int.class && m.getModifiers() == Modifier.PUBLIC;
            for (Class<?> p : m.getParameterTypes()) plain &= p == int.class;
            checks.holds(plain, "type of " + m.getName());
            got.add(m.getName() + " " + m.getParameterCount());
            names.add(m.getName());
        }
        checks.holds(due.equals(got), "methods of the face: " + got);
        Map<String, Integer> constants = new TreeMap<>(Map.of("NONE", -1, "FULL", -2, "STATE", -3, "NOT", -4, "NO_VALUE", -2000000000));
        int seen = 0;
        for (Field f : c.getDeclaredFields()) {
            if (Modifier.isPrivate(f.getModifiers())) continue;
            checks.holds(constants.containsKey(f.getName()) && f.getType() == int.class
                && f.getModifiers() == (Modifier.PUBLIC | Modifier.STATIC | Modifier.FINAL), "constant " + f.getName());
            seen++;
        }
        checks.due(constants.size(), seen, "constants");
        Constructor<?>[] made = c.getDeclaredConstructors();
        checks.holds(made.length == 1 && Modifier.isPublic(made[0].getModifiers()) && made[0].getParameterCount() == 0, "one constructor");
        privateNames(c, names);
        for (Class<?> inside : c.getDeclaredClasses()) privateNames(inside, names);
    }

    private static void privateNames(Class<?> c, Set<String> names) {
        for (Method m : c.getDeclaredMethods()) {
            if (Modifier.isPublic(m.getModifiers())) continue;
            checks.holds(!names.contains(m.getName()), c.getSimpleName() + "." + m.getName() + " bears a public name");
            checks.holds(m.getParameterCount() <= 7, c.getSimpleName() + "." + m.getName() + " has at most seven parameters");
        }
    }

    private static void insideClasses() {
        checks.part("rules 2, 5, 11");
        Class<?>[] inside = BreadLands.class.getDeclaredClasses();
        checks.holds(inside.length + 1 <= 12, "at most twelve classes: " + (inside.length + 1));
        fields(BreadLands.class);
        for (Class<?> c : inside) {
            checks.holds(Modifier.isStatic(c.getModifiers()) && !Modifier.isPublic(c.getModifiers()), c.getSimpleName() + " is static and not public");
            fields(c);
        }
    }

    private static void fields(Class<?> c) {
        int own = 0;
        for (Field f : c.getDeclaredFields()) {
            if (!Modifier.isStatic(f.getModifiers())) own++;
            else checks.holds(Modifier.isFinal(f.getModifiers()), c.getSimpleName() + "." + f.getName() + " is final");
        }
        checks.holds(own <= 20, c.getSimpleName() + " has at most twenty fields: " + own);
    }

    private static void source(String file) throws Exception {
        byte[] bytes = Files.readAllBytes(Path.of(file));
        checks.part("rule 3");
        for (byte b : bytes) if (b < 1) checks.holds(false, "signs 1 to 127 alone");
        String text = new String(bytes, StandardCharsets.ISO_8859_1);
        String code = text.replaceAll("(?s)/\\*.*?\\*/", "").replaceAll("//[^\n]*", "").replaceAll("'[^']'", "0");
        checks.part("rules 2, 3, 4, 6, 13");
        String[] words = {"throw", "throws", "try", "catch", "finally", "synchronized", "assert", "import", "package", "volatile", "native",
            "System", "Thread", "Random", "Object", "Class", "Exception", "double", "float", "hashCode", "toString", "equals", "protected",
            "var", "yield", "enum", "interface"};
        for (String word : words) checks.holds(!Pattern.compile("\\b" + word + "\\b").matcher(code).find(), "no " + word);
        for (String sign : new String[] {"->", "::", "\"", "Exact", "@"}) checks.holds(!code.contains(sign), "no " + sign);
        Matcher math = Pattern.compile("\\b([A-Z][A-Za-z]*)\\.(\\w+)\\(").matcher(code);
        while (math.find()) checks.holds(math.group().matches("Math\\.(max|min)\\("), "library: " + math.group());
        checks.part("rule 11");
        methodLengths(code);
    }

    private static void methodLengths(String code) {
        int start = -1;
        String indent = "";
        String[] lines = code.split("\n");
        int methods = 0;
        for (int i = 0; i < lines.length; i++) {
            Matcher head = Pattern.compile("^(    |        )(public|private)[^=;]*\\) \\{$").matcher(lines[i]);
            if (head.find()) {
                start = i;
                indent = head.group(1);
            } else if (start >= 0 && lines[i].equals(indent + "}")) {
                checks.holds(i - start + 1 <= 60, "at most sixty lines: " + lines[start].trim());
                start = -1;
                methods++;
            }
        }
        checks.holds(methods > 60, "methods were seen: " + methods);
    }
}
