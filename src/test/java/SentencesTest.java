import java.io.IOException;
import java.nio.file.Files;
import java.nio.file.Path;
import java.util.List;
import java.util.Set;
import java.util.TreeSet;
import java.util.regex.Matcher;
import java.util.regex.Pattern;
import java.util.stream.Collectors;
import java.util.stream.Stream;

/** src/test/sentences.txt has every sentence of the document, and each has cases that there are. */
public final class SentencesTest {
    private static final Check CHECK = new Check("SentencesTest");
    private static final Path LIST = Path.of("src/test/sentences.txt");
    private static final Path DOCUMENT = Path.of("../shared/DOC.md");
    private static final Pattern HEADING = Pattern.compile("## Promise (\\d+):");

    public static void main(String[] args) throws IOException {
        Set<String> cases = cases();
        StringBuilder quoted = new StringBuilder();
        Set<Integer> promises = new TreeSet<>();
        String sentence = null;
        String named = "";
        int promise = 0;
        for (String line : Files.readAllLines(LIST)) {
            if (line.startsWith("> ")) {
                standsBehind(sentence, named, promise);
                sentence = line.substring(2).strip();
                named = "";
                quoted.append(quoted.length() > 0 ? " " : "").append(sentence);
                Matcher heading = HEADING.matcher(sentence);
                if (heading.lookingAt()) {
                    promise = Integer.parseInt(heading.group(1));
                    promises.add(promise);
                } else if (sentence.startsWith("## ")) {
                    promise = 0;
                }
            } else if (line.startsWith("= ") || line.startsWith("- ")) {
                named += line + " ";
                for (String one : line.startsWith("= ") ? line.substring(2).strip().split(" +") : new String[0]) {
                    CHECK.so("there is a case " + one, cases.contains(one));
                }
            } else {
                CHECK.so("a line that can't be read: " + line, line.isEmpty() || line.startsWith("#"));
            }
        }
        standsBehind(sentence, named, promise);
        CHECK.due("promises", promises.size(), 44);
        nothingIsLeftOut(quoted.toString());
        CHECK.report();
    }

    /** What stands behind a sentence: cases, within a promise one by its number at least; or why none can be. */
    private static void standsBehind(String sentence, String named, int promise) {
        if (sentence == null) {
            return;
        }
        CHECK.so("something stands behind: " + sentence, !named.isEmpty());
        if (promise > 0 && named.startsWith("= ")) {
            String number = String.format("promise%02d", promise);
            CHECK.so("a case of " + number + " stands behind: " + sentence, named.contains(number));
        }
        if (named.startsWith("- ")) {
            boolean heading = sentence.startsWith("#") || sentence.matches("[IV]+\\.");
            CHECK.so("no heading, no case: " + sentence, heading || !named.startsWith("- a heading"));
        }
    }

    /** All tests' methods, by their own names (promiseNN..) and with their test's ahead. */
    private static Set<String> cases() throws IOException {
        Set<String> names = new TreeSet<>();
        for (Path file : tests()) {
            String test = file.getFileName().toString().replace(".java", "");
            Matcher method = Pattern.compile("static void (\\w+)\\(").matcher(Files.readString(file));
            while (method.find()) {
                String name = method.group(1);
                names.add(test + "." + name);
                if (name.matches("promise\\d\\d\\w+")) {
                    CHECK.so("one case alone has the name " + name, names.add(name));
                }
            }
        }
        return names;
    }

    private static List<Path> tests() throws IOException {
        try (Stream<Path> all = Files.list(Path.of("src/test/java"))) {
            return all.filter(p -> p.getFileName().toString().endsWith("Test.java")).sorted()
                .collect(Collectors.toList());
        }
    }

    /** Blanks and the marks around the document's programs aside, the list's sentences are the document. */
    private static void nothingIsLeftOut(String quoted) throws IOException {
        if (!Files.isReadable(DOCUMENT)) {
            System.out.println("SentencesTest: " + DOCUMENT + " is not there, so the list is not compared with it");
            return;
        }
        String document = Files.readString(DOCUMENT).replaceAll("(?m)^```\\w*$", "").strip().replaceAll("\\s+", " ");
        int same = 0;
        while (same < Math.min(document.length(), quoted.length()) && document.charAt(same) == quoted.charAt(same)) {
            same++;
        }
        String next = document.substring(same, Math.min(document.length(), same + 80));
        CHECK.so("the list goes on as the document does, at: " + next, document.equals(quoted));
    }
}
