import java.io.File;
import java.lang.reflect.Method;
import java.nio.file.Files;
import java.nio.file.Path;
import java.util.ArrayList;
import java.util.LinkedHashSet;
import java.util.List;
import java.util.Set;
import java.util.TreeSet;
import java.util.regex.Matcher;
import java.util.regex.Pattern;

/**
 * Of README.md: the example's answers, the calls and the names of their refusals, numbers, the reasons of acts, the names
 * of classes and tests, paths. What its tables say in words is held by reading alone.
 */
public final class ReadmeTest {
    private static final Tally TALLY = new Tally("ReadmeTest");
    private static final Pattern EXAMPLE = Pattern.compile("tree\\.(\\w+\\(.*\\)); +// (-?\\d+): .*");
    private static final Pattern SAID = Pattern.compile("for \\(char sign : \"(.*)\"\\.toCharArray\\(\\)\\) tree\\.say\\(sign\\);");
    private static final Pattern HEAD = Pattern.compile("`(\\w+)\\(([^)]*)\\)`");
    private static final Pattern REFUSAL = Pattern.compile("\\b(?:UNKNOWN|OUTSIDE|STATE|FULL|NO)\\b");
    private static final Pattern NONE = Pattern.compile("\\bNONE\\b");

    private final String readme;
    private final String document;

    private ReadmeTest(String readme, String document) {
        this.readme = readme;
        this.document = document;
    }

    public static void main(String[] args) throws Exception {
        ReadmeTest test = new ReadmeTest(Files.readString(Path.of("README.md")),
            Files.readString(Path.of(System.getProperty("keyedtree.document", "../shared/DOC.md"))));
        test.example();
        test.calls();
        test.refusals();
        test.acts();
        test.classes();
        test.tests();
        test.paths();
        TALLY.end();
    }

    /** What stands under a heading, up to the next one. */
    private static String part(String text, String heading) {
        int start = text.indexOf("\n" + heading + "\n");
        TALLY.must("there is a part " + heading, start >= 0);
        String rest = start < 0 ? "" : text.substring(start + heading.length() + 2);
        Matcher next = Pattern.compile("(?m)^##").matcher(rest);
        return next.find() ? rest.substring(0, next.start()) : rest;
    }

    /** The rows of a part's table, by their cells, without its head. */
    private List<String[]> rows(String heading) {
        List<String[]> rows = new ArrayList<>();
        for (String line : part(readme, heading).split("\n")) {
            if (line.startsWith("|")) {
                rows.add(line.substring(1).split("\\|", -1));
            }
        }
        TALLY.must("a table under " + heading, rows.size() > 2);
        return rows.subList(Math.min(2, rows.size()), rows.size());
    }

    private static List<String> found(Pattern pattern, String text) {
        Set<String> all = new LinkedHashSet<>();
        Matcher found = pattern.matcher(text);
        while (found.find()) {
            all.add(found.group());
        }
        return new ArrayList<>(all);
    }

    private void example() {
        KeyedTree tree = new KeyedTree();
        String use = part(readme, "## Use");
        String[] lines = use.substring(use.indexOf("```java\n") + 8, use.lastIndexOf("```")).split("\n");
        TALLY.due(lines[0], lines[0].equals("KeyedTree tree = new KeyedTree();") ? 1 : 0, 1);
        for (int i = 1; i < lines.length; i++) {
            Matcher call = EXAMPLE.matcher(lines[i]);
            Matcher said = SAID.matcher(lines[i]);
            if (said.matches()) {
                Talk.say(tree, said.group(1));
            } else if (call.matches()) {
                TALLY.due(lines[i], Sentences.call(tree, call.group(1)), Long.parseLong(call.group(2)));
            } else {
                TALLY.must("a line of calls: " + lines[i], false);
            }
        }
    }

    private void calls() {
        Set<String> told = new LinkedHashSet<>();
        for (String[] cells : rows("### What calls answer")) {
            Matcher head = HEAD.matcher(cells[0].strip());
            if (!head.matches()) {
                TALLY.must("a call: " + cells[0], false);
                continue;
            }
            told.add(head.group(1) + " " + (head.group(2).isEmpty() ? 0 : head.group(2).split(",").length));
            Matcher promise = Pattern.compile("(?m)^## Promise \\d+: " + head.group(1) + "$").matcher(document);
            TALLY.must("a promise of " + head.group(1), promise.find());
            String words = part(document, promise.group());
            TALLY.must(head.group(1) + " is refused with " + found(REFUSAL, words), found(REFUSAL, words).equals(found(REFUSAL, cells[2])));
            TALLY.must(head.group(1) + " answers NONE or not", found(NONE, words).equals(found(NONE, cells[1])));
        }
        Set<String> face = new LinkedHashSet<>();
        for (Method method : KeyedTree.class.getMethods()) {
            if (method.getDeclaringClass() == KeyedTree.class) {
                face.add(method.getName() + " " + method.getParameterCount());
            }
        }
        TALLY.must("all calls are told: " + told, told.equals(face));
    }

    private void refusals() throws ReflectiveOperationException {
        List<String> names = new ArrayList<>();
        for (String[] cells : rows("### What refused calls answer")) {
            String name = cells[0].strip().replace("`", "");
            names.add(name);
            TALLY.due(name, Long.parseLong(cells[1].strip()), KeyedTree.class.getField(name).getInt(null));
        }
        TALLY.must("refusals in their order: " + names, names.equals(List.of("UNKNOWN", "OUTSIDE", "NO", "STATE", "FULL")));
        String words = part(readme, "### What refused calls answer");
        TALLY.must("NONE and GONE", words.contains("`NONE` (" + KeyedTree.NONE + ")") && words.contains("`GONE` is " + KeyedTree.GONE + "."));
    }

    private static KeyedTree[] states() {
        KeyedTree last = new KeyedTree();
        last.seed(9999);
        return new KeyedTree[] {last, Talk.put(Talk.with(0, 5), 1, 5),
            Talk.fill(Talk.fill(new KeyedTree(), 0, 0, 39), 1, 40, 49), Talk.put(Talk.fill(new KeyedTree(), 0, 10, 49), 1, 5)};
    }

    private void acts() {
        StringBuilder kinds = new StringBuilder();
        for (String[] cells : rows("### Acts")) {
            String act = cells[0].strip().replaceAll("`|</?code>", "").replace("&#124;", "|");
            kinds.append(act.length() > 1 ? act.charAt(1) : act.charAt(0));
            Set<String> reasons = new TreeSet<>();
            for (KeyedTree tree : states()) {
                TALLY.due(act + " has no fault", Talk.pad(tree, act).fault(), KeyedTree.NONE);
                reasons.add("" + tree.judge(1));
                reasons.add("" + Talk.pad(tree, act.replace('B', 'A')).judge(1));
            }
            reasons.remove("" + KeyedTree.NONE);
            Set<String> told = new TreeSet<>(found(Pattern.compile("(?<=^|; )\\d"), cells[2].strip()));
            TALLY.must(act + " can not be for " + reasons + ", told are " + told, told.equals(reasons));
        }
        TALLY.must("all acts are told: " + kinds, kinds.toString().equals("+-/&=|~!"));
    }

    private void classes() {
        Set<String> told = new TreeSet<>(found(Pattern.compile("(?m)(?<=^- `)\\w+(?=`:)"), part(readme, "## How it is built")));
        Set<String> inside = new TreeSet<>();
        for (Class<?> one : KeyedTree.class.getDeclaredClasses()) {
            inside.add(one.getSimpleName());
        }
        TALLY.must("the classes inside are " + inside, told.equals(inside));
    }

    private void tests() {
        Set<String> told = new TreeSet<>();
        for (String[] cells : rows("## Tests")) {
            told.add(cells[0].strip().replace("`", ""));
        }
        Set<String> tests = new TreeSet<>();
        Set<String> others = new TreeSet<>();
        for (String file : new File("src/test/java").list()) {
            String name = file.replaceAll("\\.java$", "");
            (name.endsWith("Test") ? tests : others).add(name);
        }
        TALLY.must("the tests are " + tests, told.equals(tests));
        String words = readme.substring(Math.max(0, readme.indexOf("\n## Tests\n")));
        for (String other : others) {
            TALLY.must(other + " is told of", words.contains("`" + other + "`"));
        }
    }

    private void paths() {
        for (String path : found(Pattern.compile("(?<=`)(?:src|\\.\\.|NOTES)[\\w./]+(?=`)"), readme)) {
            TALLY.must(path + " is there", new File(path).exists());
        }
        TALLY.must(".ci/run can be run", readme.contains("\n    .ci/run\n") && new File(".ci/run").canExecute());
    }
}
