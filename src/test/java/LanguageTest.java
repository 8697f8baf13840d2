import java.io.IOException;
import java.lang.reflect.Field;
import java.lang.reflect.Method;
import java.lang.reflect.Modifier;
import java.nio.file.Files;
import java.nio.file.Path;
import java.util.ArrayList;
import java.util.List;
import java.util.Set;
import java.util.TreeSet;
import java.util.regex.Matcher;
import java.util.regex.Pattern;

/** The face of the document, and the rules of LANGUAGE.md that can be looked up. */
public final class LanguageTest {
    private static final Check CHECK = new Check("LanguageTest");
    private static final String FACE = "ask(int) back(int) begin() canBe() cell(int,int) compare(int,int,int) count(int)"
        + " days(int,int) drawn(int) drop(int) end(int) enter(int) fault() feed(int,int,int,int,int) few(int,int)"
        + " find(int) force(int) forget() holders() hurry() image(int) law() least() leave(int) list(int) node(int)"
        + " of(int,int) old(int,int) orders() park(int) put(int,int) reach(int) row() seen(int,int) sees(int,int)"
        + " status() step(int) stopped() tears() terms(int,int) tick(int) undo() why(int)";
    private static final String[] RULED_OUT = {"throw", "throws", "try", "catch", "synchronized", "assert", "->", "::",
        "Exact", "Object", "System.out", "hashCode", "toString", "equals", "volatile", "native", "Random", "System.nano",
        "System.current", "Thread", "List", "Math.random", "goto", "super"};

    public static void main(String[] args) throws IOException {
        face();
        members();
        source(Files.readString(Path.of("src/main/java/GraceTree.java")));
        CHECK.report();
    }

    private static void face() {
        Set<String> names = new TreeSet<>();
        for (Method m : GraceTree.class.getDeclaredMethods()) {
            if (Modifier.isPublic(m.getModifiers())) {
                String types = List.of(m.getParameterTypes()).toString().replaceAll("[\\[\\] ]", "");
                names.add(m.getName() + "(" + types + ")");
                String due = m.getName().equals("few") ? "long" : "int";
                CHECK.so(m.getName() + " answers " + due, m.getReturnType().getName().equals(due));
            }
        }
        CHECK.so("the face is " + names, String.join(" ", names).equals(FACE));
        CHECK.due("constructors", GraceTree.class.getDeclaredConstructors().length, 1);
        CHECK.so("final", Modifier.isFinal(GraceTree.class.getModifiers()));
    }

    private static List<Class<?>> classes() {
        List<Class<?>> all = new ArrayList<>(List.of(GraceTree.class.getDeclaredClasses()));
        all.add(GraceTree.class);
        return all;
    }

    private static void members() {
        Set<String> publicNames = new TreeSet<>();
        for (Method m : GraceTree.class.getDeclaredMethods()) {
            boolean open = Modifier.isPublic(m.getModifiers());
            CHECK.so(m.getName() + " is public or private", open || Modifier.isPrivate(m.getModifiers()));
            if (open) {
                publicNames.add(m.getName());
            }
        }
        for (Field f : GraceTree.class.getDeclaredFields()) {
            boolean none = f.getName().equals("NONE");
            CHECK.so(f.getName() + " is NONE or private", none || Modifier.isPrivate(f.getModifiers()));
        }
        CHECK.so("at most twelve classes", classes().size() <= 12);
        for (Class<?> c : classes()) {
            int fields = 0;
            CHECK.so(c + " is static", c == GraceTree.class || Modifier.isStatic(c.getModifiers()));
            for (Field f : c.getDeclaredFields()) {
                boolean fixed = Modifier.isStatic(f.getModifiers());
                fields += fixed ? 0 : 1;
                CHECK.so(f + " is final", !fixed || Modifier.isFinal(f.getModifiers()));
            }
            CHECK.so(c + " has at most twenty fields: " + fields, fields <= 20);
            for (Method m : c.getDeclaredMethods()) {
                boolean open = Modifier.isPublic(m.getModifiers());
                CHECK.so(m + " bears no public name", open || !publicNames.contains(m.getName()));
                CHECK.so(m + " takes at most seven", m.getParameterCount() <= 7);
            }
        }
    }

    private static void source(String file) {
        String code = file.replaceAll("(?s)/\\*.*?\\*/", "").replaceAll("//[^\n]*", "").replaceAll("\"[^\"\n]*\"", "\"\"");
        for (String word : RULED_OUT) {
            String wanted = Character.isLetter(word.charAt(0)) ? "\\b" + Pattern.quote(word) : Pattern.quote(word);
            CHECK.so("no " + word, !Pattern.compile(wanted + (word.equals("->") || word.equals("::") ? "" : "\\b"))
                .matcher(code).find());
        }
        Matcher imports = Pattern.compile("import ([\\w.]+);").matcher(code);
        while (imports.find()) {
            CHECK.so("import " + imports.group(1), imports.group(1).equals("java.util.Arrays"));
        }
        // rule 9: what ends a loop stands in its own line
        Matcher loops = Pattern.compile("\\b(while|do|for) ?(\\(.*|\\{)").matcher(code);
        while (loops.find()) {
            CHECK.so("a bound in: " + loops.group(), loops.group(2).matches("\\(.*( < | > | >= ).*"));
        }
        int start = -1;
        String[] lines = file.split("\n");
        for (int i = 0; i < lines.length; i++) {
            if (lines[i].matches(" {4}( {4})?(public |private |static |final )*[\\w\\[\\]]+ ?\\w*\\(.*\\) \\{")) {
                start = i;
            }
            if (start >= 0 && lines[i].matches(" {4}( {4})?\\}")) {
                CHECK.so("short: " + lines[start].trim(), i - start < 60);
                start = -1;
            }
        }
        for (char sign : file.toCharArray()) {
            if (sign > 126) {
                CHECK.so("a sign beyond 126", false);
            }
        }
    }
}
