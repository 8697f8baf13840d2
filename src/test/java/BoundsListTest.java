import java.io.IOException;
import java.nio.file.Files;
import java.nio.file.Path;
import java.util.List;
import java.util.Map;
import java.util.TreeMap;
import java.util.regex.Matcher;
import java.util.regex.Pattern;
import java.util.stream.Collectors;
import java.util.stream.Stream;

/** Each promise, 1 to 44, has boundary cases; each of them is run, under a name of its own. */
public final class BoundsListTest {
    private static final Pattern CASE = Pattern.compile("\\bvoid (promise(\\d\\d)\\w+)\\(([^)]*)\\)");
    private static final Pattern RUN = Pattern.compile("Cases\\.run\\((\\w+)\\.class\\)");

    public static void main(String[] args) throws IOException {
        Check check = new Check("BoundsListTest");
        Map<String, Integer> names = new TreeMap<>();
        int[] cases = new int[45];
        for (Path file : files()) {
            String name = file.getFileName().toString().replace(".java", "");
            String source = Files.readString(file);
            Matcher run = RUN.matcher(source);
            check.so(name + " runs its own cases", run.find() && run.group(1).equals(name));
            Matcher one = CASE.matcher(source);
            while (one.find()) {
                int promise = Integer.parseInt(one.group(2));
                check.so(one.group(1) + " is of a promise", promise >= 1 && promise <= 44);
                check.so(one.group(1) + " takes a Check", one.group(3).equals("Check c"));
                names.merge(one.group(1), 1, Integer::sum);
                cases[Math.min(promise, 44)]++;
            }
        }
        for (int promise = 1; promise <= 44; promise++) {
            check.so("promise " + promise + " has cases", cases[promise] > 0);
        }
        names.forEach((name, often) -> check.due("how often there is " + name, often, 1));
        check.report();
    }

    private static List<Path> files() throws IOException {
        try (Stream<Path> all = Files.list(Path.of("src/test/java"))) {
            return all.filter(p -> p.getFileName().toString().matches("Bounds\\w+Test\\.java"))
                .filter(p -> !p.getFileName().toString().equals("BoundsListTest.java"))
                .sorted().collect(Collectors.toList());
        }
    }
}
