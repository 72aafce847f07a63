import java.io.IOException;
import java.nio.file.Files;
import java.nio.file.Path;
import java.util.List;
import java.util.TreeSet;
import java.util.regex.Matcher;
import java.util.regex.Pattern;

/** README.md tells the truth: its example answers as it says, and its table names the calls of the face, each once. */
public final class ReadmeTest {
    private static final Pattern CALL = Pattern.compile("desk\\.(\\w+)\\((.*)\\);\\s+// ((?:throws )?[-\\w]+),.*");
    private static final Pattern NAME = Pattern.compile("`(\\w+)`");

    public static void main(String[] args) throws IOException {
        List<String> rows = Files.readAllLines(Path.of("README.md"));
        exampleAnswersAsTold(rows);
        tableNamesTheFace(rows);
        Check.end();
    }

    private static void exampleAnswersAsTold(List<String> rows) {
        Calls desk = new Calls(List.of());
        int told = 0;
        for (String row : rows) {
            if (row.startsWith("desk.")) {
                Matcher call = CALL.matcher(row);
                Check.is("an answer is told by " + row, call.matches());
                String words = call.group(1) + " " + call.group(2).replace(",", "").replace("'", "");
                Check.is(row, desk.answer(words.trim()).equals(call.group(3)));
                told++;
            }
        }
        Check.is("the example has calls", told > 10);
    }

    private static void tableNamesTheFace(List<String> rows) {
        TreeSet<String> named = new TreeSet<>();
        for (String row : rows) {
            Matcher name = NAME.matcher(row.startsWith("| ") ? row : "");
            while (name.find()) {
                Check.is(name.group(1) + " is named once", named.add(name.group(1)));
                Check.is(name.group(1) + " is of the face", Calls.methodOf(name.group(1)) != null);
            }
        }
        Check.same("calls of the face", named.size(), 44);
    }
}
