import java.nio.file.Files;
import java.nio.file.Path;
import java.util.List;
import java.util.Set;
import java.util.TreeSet;

/**
 * README.md's row for the tests runs them all, and fails if one fails. It is tried in a copy of the project
 * whose tests are stand-ins of the same names, which note that they were run.
 */
public final class RunsAllTest {
    private static final String TESTS = "How to run its tests";
    private static final String OWN = "src/test/java";
    private static final String SHARED = "../shared/tests";
    private static final int PASSES = 0;

    private final String row;
    private final Set<String> own;
    private final Set<String> shared;

    private RunsAllTest(String row) throws Exception {
        this.row = row;
        own = Copy.names(Path.of(OWN), "Test.java");
        shared = Copy.names(Path.of(SHARED), ".java");
    }

    public static void main(String[] args) throws Exception {
        Readme readme = new Readme();
        List<String> rows = readme.rows(TESTS, "sh");
        Due.due("one row runs the tests", rows.size(), 1);
        RunsAllTest test = new RunsAllTest(rows.isEmpty() ? "" : rows.get(0));
        test.isTheScript();
        test.namesThemAll(readme.listed(TESTS));
        test.noneIsForgotten();
        test.runsThemAll();
        test.failsWithOne();
        test.failsWithoutThem();
        Due.end();
    }

    private void isTheScript() {
        Due.holds("the row is .ci/run: " + row, row.equals(Copy.RUN));
        Due.holds(".ci/run may be run", Files.isExecutable(Path.of(Copy.RUN)));
    }

    private void namesThemAll(Set<String> listed) {
        Set<String> tests = new TreeSet<>();
        for (String name : own) {
            tests.add(name + "Test");
        }
        Due.holds("the page lists each test: " + tests + ", " + listed, listed.equals(tests));
    }

    /** A file with a main method is a test, so its name has to end as a test's does. */
    private void noneIsForgotten() throws Exception {
        for (String name : Copy.names(Path.of(OWN), ".java")) {
            boolean hasMain = Files.readString(Path.of(OWN, name + ".java")).contains(" static void main(");
            Due.holds("a test, just if it has a main method: " + name, hasMain == name.endsWith("Test"));
        }
    }

    private static Copy copyWith(Set<String> ownNames, Set<String> sharedNames) throws Exception {
        Copy copy = new Copy();
        copy.take(Copy.RUN);
        // The program does not matter here, and a small one compiles sooner.
        copy.write(Copy.PROGRAM, "public final class QuietByYard {\n}\n");
        for (String name : ownNames) {
            standIn(copy, OWN, name + "Test", PASSES);
        }
        for (String name : sharedNames) {
            standIn(copy, SHARED, name, PASSES);
        }
        return copy;
    }

    private static void standIn(Copy copy, String folder, String name, int code) throws Exception {
        copy.write("ran/.keep", "");
        copy.write(folder + "/" + name + ".java", "public final class " + name + " {\n"
            + "    public static void main(String[] args) throws Exception {\n"
            + "        new QuietByYard();\n"
            + "        java.nio.file.Files.writeString(java.nio.file.Path.of(\"ran/" + name + "\"), \"\");\n"
            + "        System.exit(" + code + ");\n    }\n}\n");
    }

    private void runsThemAll() throws Exception {
        Set<String> due = new TreeSet<>(shared);
        due.add(".keep");
        for (String name : own) {
            due.add(name + "Test");
        }
        Copy copy = copyWith(own, shared);
        int code = copy.run(row);
        Due.due("exit code, if all pass (" + copy.said() + ")", code, PASSES);
        Set<String> ran = copy.names("ran");
        Due.holds("all were run: " + due + ", " + ran, ran.equals(due));
        copy.drop();
    }

    /** Two tests of each sort: it may be the first or the last one that fails, by any exit code. */
    private void failsWithOne() throws Exception {
        Set<String> two = Set.of("First", "Last");
        failing(two, OWN, "FirstTest", 1);
        failing(two, OWN, "LastTest", 3);
        failing(two, SHARED, "First", 3);
        failing(two, SHARED, "Last", 1);
        broken(two, OWN, "LastTest");
        broken(two, SHARED, "First");
    }

    private void failing(Set<String> two, String folder, String name, int code) throws Exception {
        Copy copy = copyWith(two, two);
        standIn(copy, folder, name, code);
        Due.holds("fails, if " + folder + "/" + name + " ends with " + code, copy.run(row) != PASSES);
        Due.due("and the others are run all the same: " + copy.names("ran"), copy.names("ran").size(), 5);
        copy.drop();
    }

    private void broken(Set<String> two, String folder, String name) throws Exception {
        Copy copy = copyWith(two, two);
        copy.write(folder + "/" + name + ".java", "public final class " + name + " { none }\n");
        Due.holds("fails, if " + folder + "/" + name + " does not compile", copy.run(row) != PASSES);
        copy.drop();
    }

    private void failsWithoutThem() throws Exception {
        Set<String> one = Set.of("Only");
        withTests(one, one, true);
        withTests(Set.of(), one, false);
        withTests(one, Set.of(), false);
    }

    private void withTests(Set<String> ownNames, Set<String> sharedNames, boolean passes) throws Exception {
        Copy copy = copyWith(ownNames, sharedNames);
        // Without a test of its own there is still a file beside the tests.
        copy.write(OWN + "/Beside.java", "final class Beside {\n}\n");
        Due.holds("passes with tests of both sorts, with no fewer: " + ownNames + ", " + sharedNames,
            (copy.run(row) == PASSES) == passes);
        copy.drop();
    }
}
