import java.io.IOException;
import java.nio.file.Files;
import java.nio.file.Path;
import java.util.ArrayList;
import java.util.List;
import java.util.Set;
import java.util.TreeSet;
import java.util.regex.Matcher;
import java.util.regex.Pattern;

/** What README.md shows: rows of Java, rows of the shell, names of tests. */
final class Readme {
    private final String text;

    Readme() throws IOException {
        text = Files.readString(Path.of("README.md"));
    }

    String text() {
        return text;
    }

    /** The text below a head, to the next head of that kind. */
    private String part(String head) {
        int from = text.indexOf("\n## " + head + "\n");
        if (from < 0) {
            return "";
        }
        int to = text.indexOf("\n## ", from + 1);
        return to < 0 ? text.substring(from) : text.substring(from, to);
    }

    List<String> rows(String head, String language) {
        List<String> rows = new ArrayList<>();
        Matcher block = Pattern.compile("(?s)\n```" + language + "\n(.*?)\n```").matcher(part(head));
        while (block.find()) {
            rows.addAll(List.of(block.group(1).split("\n")));
        }
        return rows;
    }

    /** The names in the points of the list below a head that stand ahead of the point's ':'. */
    Set<String> listed(String head) {
        Set<String> names = new TreeSet<>();
        Matcher point = Pattern.compile("(?m)^- ([^:]*):").matcher(part(head));
        while (point.find()) {
            Matcher name = Pattern.compile("`(\\w+)`").matcher(point.group(1));
            while (name.find()) {
                names.add(name.group(1));
            }
        }
        return names;
    }
}
