import java.lang.reflect.Field;
import java.lang.reflect.Method;
import java.lang.reflect.Modifier;
import java.util.ArrayList;
import java.util.List;
import java.util.regex.Matcher;
import java.util.regex.Pattern;

/** How README.md says that the class is used: its rows compile and run, its calls answer as it says. */
public final class ReadmeTest {
    private static final String USE = "How to use it";
    private static final Pattern SHOWN = Pattern.compile("(yard\\.(\\w+)\\(.*\\)); +// (-?\\d+|[A-Z]+)(?:: .*)?");
    private static final Pattern UNTOLD = Pattern.compile("yard\\..*");

    private final Readme readme;
    private final List<String> calls = new ArrayList<>();
    private final List<String> methods = new ArrayList<>();
    private final List<Long> wanted = new ArrayList<>();
    private final StringBuilder program = new StringBuilder();

    private ReadmeTest() throws Exception {
        readme = new Readme();
    }

    public static void main(String[] args) throws Exception {
        ReadmeTest test = new ReadmeTest();
        test.read();
        test.answers();
        test.face();
        test.constants();
        Due.end();
    }

    /** The rows as they stand, each call that has an answer told in the order of the page. */
    private void read() throws Exception {
        program.append("public final class YourProgram {\n    public static void main(String[] args) {\n");
        for (String row : readme.rows(USE, "java")) {
            Matcher shown = SHOWN.matcher(row);
            if (shown.matches()) {
                calls.add(shown.group(1));
                methods.add(shown.group(2));
                wanted.add(number(shown.group(3)));
                program.append("System.out.println(").append(shown.group(1)).append(");\n");
            } else {
                Due.holds("the answer is told: " + row, !UNTOLD.matcher(row).matches());
                program.append(row).append('\n');
            }
        }
        program.append("    }\n}\n");
    }

    private static long number(String answer) throws Exception {
        boolean isName = Character.isLetter(answer.charAt(0));
        return isName ? QuietByYard.class.getField(answer).getInt(null) : Long.parseLong(answer);
    }

    private void answers() throws Exception {
        Copy copy = new Copy();
        copy.take(Copy.PROGRAM);
        copy.write("YourProgram.java", program.toString());
        for (String row : readme.rows(USE, "sh")) {
            int code = copy.run(row);
            Due.due("exit code of " + row + " (" + copy.said() + ")", code, 0);
        }
        String[] said = copy.said().split("\n");
        copy.drop();
        Due.due("so many answers", said.length, calls.size());
        for (int i = 0; i < said.length && i < calls.size(); i++) {
            Due.due(calls.get(i), said[i].matches("-?\\d+") ? Long.parseLong(said[i]) : Long.MIN_VALUE, wanted.get(i));
        }
    }

    private void face() {
        for (Method method : QuietByYard.class.getDeclaredMethods()) {
            if (Modifier.isPublic(method.getModifiers())) {
                Due.holds("shown with its answer: " + method, methods.contains(method.getName()));
            }
        }
    }

    private void constants() throws Exception {
        for (Field field : QuietByYard.class.getFields()) {
            String words = "`" + field.getName() + "` (" + field.getInt(null) + ")";
            Due.holds("told with its number: " + words, readme.text().contains(words));
        }
    }
}
