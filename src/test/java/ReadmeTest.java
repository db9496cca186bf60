import java.io.IOException;
import java.lang.reflect.Method;
import java.lang.reflect.Modifier;
import java.nio.file.Files;
import java.nio.file.Path;
import java.util.Set;
import java.util.TreeSet;
import java.util.regex.Matcher;
import java.util.regex.Pattern;

/** README.md's run of calls: each answers what the page says, and the page shows every call of the face. */
public final class ReadmeTest {
    private static final Pattern CALL = Pattern.compile("x\\.(\\w+)\\(([^)]*)\\); +// (-?\\d+|LOST): .+");
    private static final Pattern TEXT = Pattern.compile("text\\(x, (\\d), \"([^\"]*)\"\\);");
    private static final Pattern ROW = Pattern.compile("row\\(x, (\\d), ([^)]*)\\);");

    private ReadmeTest() {
    }

    public static void main(String[] args) throws IOException {
        Run run = new Run("README");
        Set<String> shown = new TreeSet<>();
        boolean inRun = false;
        for (String line : Files.readAllLines(Path.of("README.md"))) {
            if (line.equals("KnifeBoard x = new KnifeBoard();")) inRun = true;
            else if (line.equals("```")) inRun = false;
            else if (inRun && !line.isEmpty() && !line.startsWith("//")) ask(run, line, shown);
        }
        Check.due("every call of the face is shown: " + shown, shown.equals(face()));
        Check.end();
    }

    private static void ask(Run run, String line, Set<String> shown) {
        Matcher call = CALL.matcher(line), text = TEXT.matcher(line), row = ROW.matcher(line);
        if (call.matches()) {
            shown.add(call.group(1));
            boolean lost = call.group(3).equals("LOST");
            run.due(lost ? Run.LOST : Long.parseLong(call.group(3)), call.group(1), numbers(call.group(2)));
        } else if (text.matches()) {
            run.text(Integer.parseInt(text.group(1)), 0, text.group(2));
        } else if (row.matches()) {
            run.row(Integer.parseInt(row.group(1)), 2, numbers(row.group(2)));
        } else {
            Check.due("README's line can't be read: " + line, false);
        }
    }

    private static int[] numbers(String told) {
        if (told.isEmpty()) return new int[0];
        String[] each = told.split(", ");
        int[] numbers = new int[each.length];
        for (int i = 0; i < each.length; i++) {
            boolean isFlag = each[i].equals("true") || each[i].equals("false");
            numbers[i] = isFlag ? (each[i].equals("true") ? 1 : 0) : Integer.parseInt(each[i]);
        }
        return numbers;
    }

    private static Set<String> face() {
        Set<String> names = new TreeSet<>();
        for (Method method : KnifeBoard.class.getDeclaredMethods()) {
            if (Modifier.isPublic(method.getModifiers())) names.add(method.getName());
        }
        return names;
    }
}
