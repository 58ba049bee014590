import java.io.File;
import java.io.IOException;
import java.nio.file.Files;
import java.nio.file.Path;
import java.util.ArrayList;
import java.util.Arrays;
import java.util.List;
import java.util.Map;
import java.util.TreeMap;
import java.util.TreeSet;
import java.util.regex.MatchResult;
import java.util.regex.Matcher;
import java.util.regex.Pattern;

/** README.md: its examples answer what it says, and it has every call, every refusal and every test that there is. */
public final class ReadmeTest {
    private static final Path DOCUMENT = Path.of("../shared/DOC.md");
    private static final Pattern CALL = Pattern.compile("x\\.(\\w+)\\(([-\\d, ]*)\\); *// (-?\\d+)\\b.*");
    private static final Pattern TYPED = Pattern.compile("for \\(char c : \"(.*)\"\\.toCharArray\\(\\)\\) x\\.type\\(c\\);");
    private static final Pattern ROW = Pattern.compile("(?m)^\\| `(\\w+\\([\\w, ]*\\))` \\|.*\\|([^|]*)\\|$");

    private static final List<String> faults = new ArrayList<>();
    private static int lookedAt = 0;

    public static void main(String[] args) throws IOException, ReflectiveOperationException {
        String readme = Files.readString(Path.of("README.md"));
        examples(readme);
        tests(readme);
        if (Files.isReadable(DOCUMENT)) {
            String document = Files.readString(DOCUMENT);
            calls(readme, document);
            refusals(readme, document);
        } else {
            System.out.println(DOCUMENT + " can not be read, so the calls are not compared with it");
        }
        faults.forEach(System.out::println);
        System.out.println(lookedAt + " things of README.md looked at, " + faults.size() + " not as due");
        if (!faults.isEmpty()) {
            System.exit(1);
        }
    }

    private static void due(String what, Object got, Object want) {
        lookedAt++;
        if (!got.equals(want)) {
            faults.add(what + ": README.md says " + got + ", due is " + want);
        }
    }

    private static List<MatchResult> all(Pattern pattern, String text) {
        return pattern.matcher(text).results().toList();
    }

    // ---- examples

    private static void examples(String readme) throws ReflectiveOperationException {
        List<MatchResult> blocks = all(Pattern.compile("(?s)```java\n(.*?)```"), readme);
        due("has examples", !blocks.isEmpty(), true);
        for (MatchResult block : blocks) {
            HangedWords x = new HangedWords();
            for (String line : block.group(1).split("\n")) {
                exampleLine(x, line);
            }
        }
    }

    private static void exampleLine(HangedWords x, String line) throws ReflectiveOperationException {
        Matcher call = CALL.matcher(line);
        Matcher typed = TYPED.matcher(line);
        if (call.matches()) {
            due(line, Long.parseLong(call.group(3)), answer(x, call.group(1), call.group(2)));
        } else if (typed.matches()) {
            typed.group(1).chars().forEach(x::type);
        } else {
            due("a line of an example", line, "HangedWords x = new HangedWords();");
        }
    }

    private static long answer(HangedWords x, String name, String numbers) throws ReflectiveOperationException {
        Object[] given = all(Pattern.compile("-?\\d+"), numbers).stream().map(n -> Integer.valueOf(n.group())).toArray();
        Class<?>[] takes = new Class<?>[given.length];
        Arrays.fill(takes, int.class);
        return ((Number) HangedWords.class.getMethod(name, takes).invoke(x, given)).longValue();
    }

    // ---- calls, beside the document

    /** In the document's order, with its names for what they take. */
    private static void calls(String readme, String document) {
        String face = document.substring(document.indexOf("```java"), document.indexOf("## Terms"));
        List<String> wanted = new ArrayList<>();
        for (MatchResult m : all(Pattern.compile("public (?:int|long) (\\w+\\(.*\\));"), face)) {
            wanted.add(m.group(1).replace("int ", ""));
        }
        due("the document has a face", wanted.size(), 35);
        due("calls", all(ROW, readme).stream().map(m -> m.group(1)).toList(), wanted);
    }

    private static void refusals(String readme, String document) {
        Map<String, String> promised = new TreeMap<>();
        for (MatchResult m : all(Pattern.compile("(?m)^`(?:int|long) (\\w+)\\(.*?\\)`: (.*)$"), document)) {
            // What STATUS tells is no refusal of its own.
            promised.put(m.group(1), m.group(2).replaceAll("\\b(BAD|NO|FULL) \\(\\d\\)", ""));
        }
        for (MatchResult row : all(ROW, readme)) {
            String name = row.group(1).replaceAll("\\(.*", "");
            due(name + " is refused as", reasons(row.group(2)), reasons(promised.getOrDefault(name, "")));
        }
    }

    private static TreeSet<String> reasons(String text) {
        TreeSet<String> reasons = new TreeSet<>();
        all(Pattern.compile("\\b(BAD|NO|FULL)\\b"), text).forEach(m -> reasons.add(m.group()));
        return reasons;
    }

    // ---- tests

    private static void tests(String readme) {
        TreeSet<String> wanted = new TreeSet<>();
        for (File file : new File("src/test/java").listFiles()) {
            if (file.getName().endsWith("Test.java")) {
                wanted.add(file.getName().replace(".java", ""));
            }
        }
        TreeSet<String> listed = new TreeSet<>();
        for (MatchResult row : all(Pattern.compile("(?m)^\\| ((?:\\w+Test(?:, )?)+) \\|"), readme)) {
            listed.addAll(List.of(row.group(1).split(", ")));
        }
        due("tests", listed, wanted);
        due("how tests are run", readme.contains("`.ci/run`"), true);
    }
}
