import java.io.IOException;
import java.lang.reflect.InvocationTargetException;
import java.lang.reflect.Method;
import java.nio.file.Files;
import java.nio.file.Path;
import java.util.ArrayList;
import java.util.HashMap;
import java.util.List;
import java.util.Map;
import java.util.Set;
import java.util.TreeSet;
import java.util.regex.Matcher;
import java.util.regex.Pattern;

/** README.md: what it says holds when one does it. */
public final class ReadmeTest {
    private static final Path PROJECT = Path.of("");
    private static final Path SHARED = Path.of("..", "shared");
    private static final Pattern BLOCK =
            Pattern.compile("(?ms)^```(\\w+)\\n(.*?)^```$");
    private static final Pattern CALL =
            Pattern.compile("(?m)^\\| \\d+ \\| `(\\w+)\\(([\\w, ]*)\\)` \\|");
    private static final Pattern RANGE =
            Pattern.compile("(?m)^\\| `(\\w+)` \\| (-?\\d+) to (-?\\d+)(?: - `(\\w+)`)? \\|$");
    private static final Pattern TEST = Pattern.compile("`(\\w+Test|EdgesOf\\w+)`");

    /** Within all ranges; not 0, so that the ranges that hang on column and row are seen to do so. */
    private static final Map<String, Integer> USUAL = Map.of("column", 3, "row", 2, "wide", 1,
            "high", 1);

    public static void main(String[] args) throws IOException {
        String readme = Files.readString(PROJECT.resolve("README.md"));
        commandsRun(blocks(readme));
        callsAreOfTheFace(readme);
        rangesHold(readme);
        testsAreNamed(readme);
        Check.end();
    }

    private static Map<String, List<String>> blocks(String readme) {
        Map<String, List<String>> found = new HashMap<>();
        for (Matcher block = BLOCK.matcher(readme); block.find();) {
            found.computeIfAbsent(block.group(1), key -> new ArrayList<>()).add(block.group(2));
        }
        return found;
    }

    private static void commandsRun(Map<String, List<String>> blocks) throws IOException {
        Check.about("README's commands");
        Check.same("programs, and what they print", "1 and 1",
                blocks.get("java").size() + " and " + blocks.get("text").size());
        Sandbox sandbox = new Sandbox();
        sandbox.copy(PROJECT.resolve("src"), "main/src");
        if (Files.exists(SHARED)) {
            sandbox.copy(SHARED, "shared");
        }
        sandbox.write("main/Example.java", blocks.get("java").get(0));
        for (String commands : blocks.get("sh")) {
            commandsRun(sandbox, commands, blocks.get("text").get(0));
        }
        sandbox.remove();
    }

    private static void commandsRun(Sandbox sandbox, String commands, String examplePrints) {
        Matcher shared = Pattern.compile("\\.\\./(shared/\\S+)").matcher(commands);
        if (shared.find() && !Files.exists(PROJECT.resolve(shared.group()))) {
            System.out.println(shared.group() + " isn't here: README's command wasn't run");
            return;
        }
        Sandbox.Ending ending = sandbox.run("main", commands);
        Check.same("exit code of\n" + commands + ending.printed + ending.errors, "0",
                "" + ending.code);
        if (commands.contains("Example")) {
            Check.same("the example", examplePrints, ending.printed);
        }
    }

    private static void callsAreOfTheFace(String readme) {
        Check.about("README's calls");
        Set<String> want = new TreeSet<>();
        for (Method method : DirtyTiles.class.getMethods()) {
            if (method.getDeclaringClass() == DirtyTiles.class) {
                want.add(method.getName() + " " + method.getParameterCount());
            }
        }
        Set<String> got = new TreeSet<>();
        for (Matcher call = CALL.matcher(readme); call.find();) {
            got.add(call.group(1) + " " + names(call.group(2)).length);
        }
        Check.same("names and numbers of parameters", want.toString(), got.toString());
    }

    private static String[] names(String parameters) {
        return parameters.isEmpty() ? new String[0] : parameters.split(", ");
    }

    private static void rangesHold(String readme) {
        Check.about("README's ranges");
        Map<String, int[]> ranges = ranges(readme);
        for (Matcher call = CALL.matcher(readme); call.find();) {
            String[] names = names(call.group(2));
            for (int place = 0; place < names.length; place++) {
                if (!names[place].equals("index")) {
                    rangeHolds(call.group(1), names, place, ranges.get(names[place]));
                }
            }
        }
        Check.same("number of dirty tiles - 1", "taken", outcome("dirtyAt", new int[] {0, 11}));
        Check.same("number of dirty tiles", Check.INDEX, outcome("dirtyAt", new int[] {0, 12}));
        Check.same("index -1", Check.INDEX, outcome("dirtyAt", new int[] {0, -1}));
    }

    private static Map<String, int[]> ranges(String readme) {
        Map<String, int[]> found = new HashMap<>();
        for (Matcher range = RANGE.matcher(readme); range.find();) {
            int most = Integer.parseInt(range.group(3));
            if (range.group(4) != null) {
                most -= USUAL.get(range.group(4));
            }
            found.put(range.group(1), new int[] {Integer.parseInt(range.group(2)), most});
        }
        return found;
    }

    private static void rangeHolds(String call, String[] names, int place, int[] range) {
        String what = call + " " + names[place];
        Check.same(what + " has a range", "true", "" + (range != null));
        if (range != null) {
            int[] parameters = new int[names.length];
            for (int each = 0; each < names.length; each++) {
                parameters[each] = USUAL.getOrDefault(names[each], 0);
            }
            for (int value = range[0] - 1; value <= range[1] + 1; value++) {
                parameters[place] = value;
                boolean within = value >= range[0] && value <= range[1];
                Check.same(what + " " + value, within ? "taken" : Check.ARGUMENT,
                        outcome(call, parameters));
            }
        }
    }

    /** Returns "taken" or what was thrown; both clients have joined, and have a message to answer. */
    private static String outcome(String call, int[] parameters) {
        DirtyTiles x = Scenes.bothJoined();
        if (call.equals("answer")) {
            x.ask(0, 300);
            x.ask(1, 300);
        }
        Object[] values = new Object[parameters.length];
        Class<?>[] types = new Class<?>[parameters.length];
        for (int place = 0; place < parameters.length; place++) {
            values[place] = parameters[place];
            types[place] = int.class;
        }
        try {
            DirtyTiles.class.getMethod(call, types).invoke(x, values);
            return "taken";
        } catch (InvocationTargetException e) {
            return e.getCause().getClass().getSimpleName();
        } catch (ReflectiveOperationException e) {
            return e.toString();
        }
    }

    private static void testsAreNamed(String readme) {
        Check.about("README's tests");
        Set<String> here = new TreeSet<>();
        for (Path file : Sandbox.filesBelow(PROJECT.resolve("src/test"))) {
            String name = file.getFileName().toString().replace(".java", "");
            here.add(name);
            Check.same(name + " is named", "true", "" + readme.contains("`" + name + "`"));
        }
        for (Matcher test = TEST.matcher(readme); test.find();) {
            Check.same(test.group(1) + " is here", "true", "" + here.contains(test.group(1)));
        }
    }
}
