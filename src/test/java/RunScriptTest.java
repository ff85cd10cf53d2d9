import java.nio.file.Path;
import java.util.Map;
import java.util.TreeMap;

/** .ci/run: it ends with the exit code 0 if all tests are ok, and with another one if not. */
public final class RunScriptTest {
    private static final String CLASS = "src/main/java/DirtyTiles.java";
    private static final String SOUND_CLASS = "public final class DirtyTiles { }";
    private static final String CLASS_WITH_WARNING =
            "public final class DirtyTiles { java.util.List list; }";
    private static final String OWN = "src/test/java/OwnTest.java";
    private static final String SHARED = "../shared/tests/Shared.java";
    private static final String NONE = "";

    public static void main(String[] args) {
        looks("all is ok", true);
        looks("an own test fails", false, OWN, test("OwnTest", 1));
        looks("a shared test fails", false, SHARED, test("Shared", 1));
        looks("one of two shared tests fails", false,
                "../shared/tests/Another.java", test("Another", 1));
        looks("an own test does not compile", false, OWN, "public final class OwnTest {");
        looks("a shared test does not compile", false, SHARED, "public final class Shared {");
        looks("the class does not compile", false, CLASS, "public final class DirtyTiles {");
        looks("the class gives a warning", false, CLASS, CLASS_WITH_WARNING);
        looks("there is no own test", false, OWN, NONE);
        looks("there is no shared test", false, SHARED, NONE);
        Check.end();
    }

    /** A test that makes an object and ends with this exit code. */
    private static String test(String name, int code) {
        return "public final class " + name + " { public static void main(String[] args) {"
                + " new DirtyTiles(); System.exit(" + code + "); } }";
    }

    /** Runs the script on a project in which nothing fails but what this file, if any, changes. */
    private static void looks(String what, boolean ok, String... changed) {
        Map<String, String> files = new TreeMap<>();
        files.put(CLASS, SOUND_CLASS);
        files.put(OWN, test("OwnTest", 0));
        files.put(SHARED, test("Shared", 0));
        for (int place = 0; place < changed.length; place += 2) {
            files.put(changed[place], changed[place + 1]);
        }
        Sandbox sandbox = new Sandbox();
        sandbox.copy(Path.of(".ci"), "main/.ci");
        files.values().removeIf(NONE::equals);
        files.forEach((file, text) -> sandbox.write("main/" + file, text));
        Sandbox.Ending ending = sandbox.run("main", ".ci/run");
        Check.same(what + "\n" + ending.printed + ending.errors + "ends with 0", "" + ok,
                "" + (ending.code == 0));
        sandbox.remove();
    }
}
