import java.io.PrintWriter;
import java.io.StringWriter;
import java.lang.reflect.Constructor;
import java.lang.reflect.Field;
import java.lang.reflect.Method;
import java.lang.reflect.Modifier;
import java.nio.file.Files;
import java.nio.file.Path;
import java.util.ArrayList;
import java.util.HashMap;
import java.util.HashSet;
import java.util.List;
import java.util.Map;
import java.util.Set;
import java.util.TreeSet;
import java.util.regex.Matcher;
import java.util.regex.Pattern;
import java.util.spi.ToolProvider;

/**
 * The document's face, and those rules of LANGUAGE.md that can be seen in the class file or in the text.
 * Arguments: the source file, the folder of the class files.
 */
public final class RulesTest {
    private static final String[] FACE = {
        "int type(int)", "int clear()", "int house()", "int noise(int,int)", "int sheet(int,int)",
        "int room(int,int)", "int onCell(int)", "int loud(int,int)", "int now(int)", "int lay(int,int)",
        "int lift(int)", "int turn(int)", "int hour()", "int undo()", "int waked(int)", "int through(int)",
        "int toBuy(int)", "int gain(int)", "int hear(int,int)", "int forget(int)", "int sources()",
        "int strengths(int)", "int hired(int,int,int)", "int way(int,int,int)", "int tap(int,int,int,int)",
        "int mayBe()", "int odds(int,int,int)", "int rate(int,int)", "int keep(int)", "int back(int)",
        "int count(int)", "long trace()",
    };
    private static final Set<String> CONSTANTS = Set.of("BAD", "STATE", "FULL", "NONE", "NO");
    private static final Set<Class<?>> CONSTANT_TYPES = Set.of(int.class, long.class, boolean.class, char.class,
        String.class, int[].class, long[].class, char[].class, byte[].class);
    private static final Pattern LIBRARY = Pattern.compile(String.join("|",
        "java/lang/Object\\.\"<init>\"",
        "java/lang/(Math|Integer|Long)\\.(?!\\w*Exact\\b)\\w+",
        "java/lang/String\\.(length|charAt|isEmpty|equals|indexOf|substring|toCharArray|\"<init>\")",
        "java/lang/StringBuilder\\.(append|charAt|setCharAt|setLength|deleteCharAt|reverse|length|toString|\"<init>\")",
        "java/util/(Array)?List\\.(add|get|set|remove|size|isEmpty|clear|iterator|of|\"<init>\")",
        "java/util/Iterator\\.(hasNext|next)", "java/lang/System\\.arraycopy",
        "java/util/Arrays\\.(copyOf|copyOfRange|fill)", "\"\\[\\S+\\.clone"));
    private static final int DEEPEST = 8;

    private RulesTest() {
    }

    public static void main(String[] args) throws Exception {
        constants();
        face();
        classes();
        text(Files.readString(Path.of(args[0])));
        byteCode(args[1]);
        Due.end();
    }

    private static void constants() {
        Due.due("BAD", QuietByYard.BAD, -1);
        Due.due("STATE", QuietByYard.STATE, -2);
        Due.due("FULL", QuietByYard.FULL, -3);
        Due.due("NONE", QuietByYard.NONE, -9);
        Due.due("NO", QuietByYard.NO, -1000000);
    }

    private static String signature(Method method) {
        StringBuilder text = new StringBuilder(method.getReturnType().getName() + " " + method.getName() + "(");
        for (Class<?> type : method.getParameterTypes()) {
            text.append(text.charAt(text.length() - 1) == '(' ? "" : ",").append(type.getName());
        }
        return text.append(')').toString();
    }

    private static void face() {
        Set<String> names = new HashSet<>();
        Set<String> open = new TreeSet<>();
        for (Method method : QuietByYard.class.getDeclaredMethods()) {
            if (!Modifier.isPrivate(method.getModifiers())) {
                open.add(signature(method));
                names.add(method.getName());
            }
        }
        Due.holds("the methods are the document's: " + open, open.equals(new TreeSet<>(Set.of(FACE))));
        for (Field field : QuietByYard.class.getDeclaredFields()) {
            boolean isConstant = CONSTANTS.contains(field.getName());
            Due.holds("open or not: " + field, Modifier.isPublic(field.getModifiers()) == isConstant
                && Modifier.isPrivate(field.getModifiers()) != isConstant);
        }
        Constructor<?>[] constructors = QuietByYard.class.getDeclaredConstructors();
        Due.holds("one public constructor", constructors.length == 1
            && Modifier.isPublic(constructors[0].getModifiers()) && constructors[0].getParameterCount() == 0);
        Due.holds("final", Modifier.isFinal(QuietByYard.class.getModifiers()));
        for (Class<?> inside : all()) {
            for (Method method : inside.getDeclaredMethods()) {
                boolean isFace = inside == QuietByYard.class && Modifier.isPublic(method.getModifiers());
                Due.holds("no name of the face elsewhere: " + method, isFace || !names.contains(method.getName()));
            }
        }
    }

    private static List<Class<?>> all() {
        List<Class<?>> all = new ArrayList<>(List.of(QuietByYard.class.getDeclaredClasses()));
        all.add(QuietByYard.class);
        return all;
    }

    private static void classes() {
        Due.holds("twelve classes at most", all().size() <= 12);
        for (Class<?> one : all()) {
            Due.holds("static: " + one, one == QuietByYard.class || Modifier.isStatic(one.getModifiers()));
            int fields = 0;
            for (Field field : one.getDeclaredFields()) {
                boolean isStatic = Modifier.isStatic(field.getModifiers());
                Due.holds("a static field is a constant: " + field,
                    !isStatic || Modifier.isFinal(field.getModifiers()) && CONSTANT_TYPES.contains(field.getType()));
                fields += isStatic ? 0 : 1;
            }
            Due.holds("twenty fields at most: " + one, fields <= 20);
            for (Method method : one.getDeclaredMethods()) {
                Due.holds("seven parameters at most: " + method, method.getParameterCount() <= 7);
            }
        }
    }

    private static void text(String source) {
        String code = source.replaceAll("(?s)/\\*.*?\\*/", "").replaceAll("//[^\\n]*", "");
        String[] forbidden = {"throw", "throws", "try", "catch", "synchronized", "assert", "package"};
        for (String word : forbidden) {
            Due.holds("not in the text: " + word, !Pattern.compile("(?<!\\w)" + word + "(?!\\w)").matcher(code).find());
        }
        int longest = 0;
        int from = 0;
        String[] lines = source.split("\n");
        for (int i = 0; i < lines.length; i++) {
            if (lines[i].matches(" {4,8}\\w[^=;]*\\) \\{")) {
                from = i;
            } else if (lines[i].matches(" {4,8}\\}")) {
                longest = Math.max(longest, i - from);
            }
        }
        Due.holds("no method is longer than sixty lines: " + longest, longest > 20 && longest <= 60);
    }

    // ---- the class files: who calls whom

    private static void byteCode(String folder) throws Exception {
        Map<String, Set<String>> calls = new HashMap<>();
        Set<String> starts = new TreeSet<>();
        for (Class<?> one : all()) {
            String name = one.getName();
            read(listing(folder + "/" + name + ".class"), name, calls, starts);
        }
        Due.holds("the listing was understood: " + starts.size(), starts.size() == FACE.length + 1);
        for (String start : starts) {
            int deep = depth(start, calls, new HashSet<>());
            Due.holds("calls go eight deep at most: " + start + " " + deep, deep <= DEEPEST);
        }
    }

    private static String listing(String file) {
        StringWriter out = new StringWriter();
        ToolProvider javap = ToolProvider.findFirst("javap").orElseThrow();
        javap.run(new PrintWriter(out), new PrintWriter(System.err), "-c", "-p", file);
        return out.toString();
    }

    private static final Pattern HEAD = Pattern.compile("^  (?:[\\w$.\\[\\]]+ )*([\\w$.]+)\\(.*\\);$");
    private static final Pattern CALL = Pattern.compile("invoke\\w+ .*// (?:Interface)?Method (\\S+):");

    private static void read(String listing, String name, Map<String, Set<String>> calls, Set<String> starts) {
        String method = "";
        for (String line : listing.split("\\R")) {
            Matcher head = HEAD.matcher(line);
            Matcher call = CALL.matcher(line);
            if (head.matches()) {
                method = name + "." + (head.group(1).equals(name) ? "\"<init>\"" : head.group(1));
                calls.put(method, new TreeSet<>());
                if (line.startsWith("  public ") && name.equals("QuietByYard")) {
                    starts.add(method);
                }
            } else if (call.find()) {
                String called = call.group(1).contains(".") ? call.group(1) : name + "." + call.group(1);
                Due.holds("in the library: " + called, called.startsWith("QuietByYard") || LIBRARY.matcher(called).matches());
                calls.get(method).add(called);
            }
            Due.holds("nothing is thrown or locked, no lambda, no text by +: " + line,
                !line.matches(" *\\d+: (athrow|monitorenter|invokedynamic)\\b.*"));
        }
    }

    private static int depth(String method, Map<String, Set<String>> calls, Set<String> open) {
        int deepest = 0;
        open.add(method);
        for (String called : calls.getOrDefault(method, Set.of())) {
            // What the library does inside is its own affair.
            if (calls.containsKey(called) && !open.contains(called)) {
                deepest = Math.max(deepest, depth(called, calls, open));
            }
        }
        open.remove(method);
        return deepest + 1;
    }
}
