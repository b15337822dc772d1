import java.lang.reflect.Method;
import java.nio.file.Files;
import java.nio.file.Path;
import java.util.Arrays;
import java.util.HashMap;
import java.util.List;
import java.util.Map;
import java.util.Set;
import java.util.TreeSet;
import java.util.regex.Matcher;
import java.util.regex.Pattern;

/** What README.md says of the calls, held against the class and the document. */
public final class ReadmeTest {
    private static final Checks checks = new Checks();
    private static final Pattern ROW = Pattern.compile("\\| `(\\w+)\\(([^)]*)\\)` \\|[^|]*\\|[^|]*\\|([^|]*)\\|");
    private static final Pattern STEP = Pattern.compile("(?:int (\\w+) = )?x\\.(\\w+)\\(([^)]*)\\); *// (-?\\d+)(:.*)?");
    private static final Pattern HEAD = Pattern.compile("## Promise \\d+: (\\w+)");
    private static final Pattern CALL = Pattern.compile("`int \\w+\\(([^)]*)\\)`: (.*)");
    private static final Pattern CODE = Pattern.compile("\\b(NONE|FULL|STATE|NOT|NO_VALUE)\\b");

    public static void main(String[] args) throws Exception {
        List<String> readme = Files.readAllLines(Path.of("README.md"));
        example(readme);
        rows(readme, Files.readAllLines(Path.of("../shared/DOC.md")));
        constants(readme);
        checks.end();
    }

    /** Makes the calls of the example one by one: each answers the number behind it. */
    private static void example(List<String> readme) throws Exception {
        checks.part("the example");
        BreadLands x = new BreadLands();
        Map<String, Integer> named = new HashMap<>();
        int first = readme.indexOf("```java") + 1;
        checks.due(1, first > 0 && readme.get(first).equals("BreadLands x = new BreadLands();") ? 1 : 0, "begins with a new object");
        for (int i = first + 1; i < readme.size() && !readme.get(i).equals("```"); i++) {
            Matcher step = STEP.matcher(readme.get(i));
            checks.holds(step.matches(), "can be read: " + readme.get(i));
            if (!step.matches()) continue;
            Object[] numbers = Arrays.stream(step.group(3).split(", ")).map(s -> named.containsKey(s) ? named.get(s) : Integer.decode(s)).toArray();
            Class<?>[] types = new Class<?>[numbers.length];
            Arrays.fill(types, int.class);
            int answer = (Integer) BreadLands.class.getMethod(step.group(2), types).invoke(x, numbers);
            checks.due(Integer.parseInt(step.group(4)), answer, readme.get(i));
            if (step.group(1) != null) named.put(step.group(1), answer);
        }
    }

    /** Each call of the class has one row, with the document's parameters and the refusals that the document names. */
    private static void rows(List<String> readme, List<String> doc) {
        Map<String, String[]> told = new HashMap<>();
        for (String line : readme) {
            Matcher row = ROW.matcher(line);
            if (row.matches()) checks.holds(told.put(row.group(1), new String[] {row.group(2), row.group(3)}) == null, "one row: " + line);
        }
        Set<String> calls = new TreeSet<>();
        for (Method m : BreadLands.class.getDeclaredMethods()) {
            if (java.lang.reflect.Modifier.isPublic(m.getModifiers())) calls.add(m.getName());
        }
        checks.part("rows");
        checks.holds(calls.equals(new TreeSet<>(told.keySet())), "a row for each call, and no other: " + told.keySet());
        int promises = 0;
        for (int i = 0; i + 2 < doc.size(); i++) {
            Matcher head = HEAD.matcher(doc.get(i));
            Matcher call = CALL.matcher(doc.get(i + 2));
            if (!head.matches() || !call.matches()) continue;
            promises++;
            checks.part(head.group(1));
            String[] row = told.getOrDefault(head.group(1), new String[] {"", ""});
            checks.holds(row[0].equals(call.group(1).replace("int ", "")), "parameters: " + row[0]);
            Set<String> due = codes(call.group(2));
            // The document says "NO_VALUE: NONE" of a call that answers NO_VALUE where others answer NONE.
            if (due.contains("NO_VALUE")) due.remove("NONE");
            checks.holds(due.equals(codes(row[1])), "refusals: " + row[1] + ", due are " + due);
        }
        checks.due(calls.size(), promises, "promises of the document");
    }

    private static Set<String> codes(String text) {
        Set<String> codes = new TreeSet<>();
        Matcher code = CODE.matcher(text);
        while (code.find()) codes.add(code.group());
        return codes;
    }

    private static void constants(List<String> readme) throws Exception {
        checks.part("constants");
        for (String name : new String[] {"NONE", "FULL", "STATE", "NOT", "NO_VALUE"}) {
            String head = "| " + BreadLands.class.getField(name).getInt(null) + " | `" + name + "` |";
            checks.holds(readme.stream().anyMatch(line -> line.startsWith(head)), head);
        }
    }
}
