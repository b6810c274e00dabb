import java.io.PrintWriter;
import java.io.StringWriter;
import java.net.URI;
import java.nio.file.Path;
import java.util.ArrayList;
import java.util.HashSet;
import java.util.List;
import java.util.Map;
import java.util.Set;
import java.util.TreeMap;
import java.util.TreeSet;
import java.util.regex.Matcher;
import java.util.regex.Pattern;
import java.util.spi.ToolProvider;

/** LANGUAGE.md, rules 8 and 11: how deep calls go, and that the reading of rates alone calls itself. */
public final class DepthTest {
    private static final Pattern METHOD = Pattern.compile("  \\S.*?([\\w$]+)\\(.*\\).*;");
    private static final Pattern CALL = Pattern.compile(".*// Method (?:([\\w$]+)\\.)?\"?([\\w<>$]+)\"?:.*");

    private final Map<String, Set<String>> calls = new TreeMap<>();

    public static void main(String[] args) throws Exception {
        DepthTest graph = new DepthTest();
        graph.read(PortHouse.class);
        for (Class<?> inside : PortHouse.class.getDeclaredClasses()) {
            graph.read(inside);
        }
        graph.goesEightDeep();
        graph.onlyRatesCallThemselves();
        Check.end();
    }

    private void read(Class<?> of) throws Exception {
        URI place = of.getResource("/" + of.getName() + ".class").toURI();
        StringWriter text = new StringWriter();
        ToolProvider javap = ToolProvider.findFirst("javap").orElseThrow();
        Check.due(0, javap.run(new PrintWriter(text), new PrintWriter(System.out), "-p", "-c", Path.of(place).toString()));
        String method = "";
        for (String line : text.toString().split("\n")) {
            Matcher begins = METHOD.matcher(line);
            Matcher calling = CALL.matcher(line);
            if (begins.matches()) {
                boolean isMade = of.getName().equals(begins.group(1));
                method = of.getName() + "." + (isMade ? "<init>" : begins.group(1));
                calls.put(method, new TreeSet<>());
            } else if (calling.matches() && calls.containsKey(method)) {
                String owner = calling.group(1) == null ? of.getName() : calling.group(1);
                calls.get(method).add(owner + "." + calling.group(2));
            }
        }
    }

    private void goesEightDeep() {
        Check.topic("LANGUAGE.md, rule 11: calls that are no recursion go at most eight deep");
        Check.due(true, calls.size() > 87);
        for (String method : calls.keySet()) {
            List<String> way = deepest(method, new HashSet<>(Set.of(method)));
            Check.due("", way.size() > 8 ? way.toString() : "");
        }
    }

    private List<String> deepest(String method, Set<String> open) {
        List<String> best = new ArrayList<>();
        for (String next : calls.get(method)) {
            if (calls.containsKey(next) && open.add(next)) {
                List<String> way = deepest(next, open);
                best = way.size() > best.size() ? way : best;
                open.remove(next);
            }
        }
        best.add(0, method);
        return best;
    }

    private void onlyRatesCallThemselves() {
        Check.topic("LANGUAGE.md, rule 8: only what carries its depth comes back to itself");
        Set<String> found = new TreeSet<>();
        for (String method : calls.keySet()) {
            Set<String> reached = new HashSet<>();
            reach(method, reached);
            if (reached.contains(method)) {
                found.add(method.substring(method.indexOf('$') + 1));
            }
        }
        Check.due("[RateReader.readBracket, RateReader.readPair, RateReader.readPart, RateReader.readRate]",
                found.toString());
    }

    private void reach(String method, Set<String> reached) {
        for (String next : calls.getOrDefault(method, Set.of())) {
            if (reached.add(next)) {
                reach(next, reached);
            }
        }
    }
}
