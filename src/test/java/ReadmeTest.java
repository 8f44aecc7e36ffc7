import java.lang.reflect.Method;
import java.nio.file.Files;
import java.nio.file.Path;
import java.util.regex.Matcher;
import java.util.regex.Pattern;

/** The rows of README.md that tell an answer: the class gives it. */
public final class ReadmeTest {
    private static final Pattern CALL = Pattern.compile("night\\.(\\w+)\\(([^)]*)\\);(?: // (-?\\d+|true|false)\\b.*)?");
    private static final Pattern END_OF_TEXT = Pattern.compile("\\s*\"\"\"\\); // (\\d+)");
    private static final int LEAST_ROWS = 50;
    private NightHours night = null;
    private StringBuilder text = null;
    private int rows = 0;
    private int wrong = 0;

    public static void main(String[] args) throws Exception {
        ReadmeTest test = new ReadmeTest();
        for (String line : Files.readAllLines(Path.of("README.md"))) {
            test.take(line);
        }
        test.due("rows that are tested, at least", Math.min(test.rows, LEAST_ROWS), "" + LEAST_ROWS);
        System.out.println(test.wrong == 0 ? test.rows + " rows of README.md hold" : test.wrong + " rows of README.md do not hold");
        System.exit(test.wrong == 0 ? 0 : 1);
    }

    private void due(String row, Object got, String want) {
        if (!String.valueOf(got).equals(want)) {
            wrong++;
            System.out.println(row + ": " + got);
        }
    }

    private void take(String line) throws Exception {
        Matcher end = END_OF_TEXT.matcher(line);
        Matcher call = CALL.matcher(line);
        if (line.equals("NightHours night = new NightHours();")) {
            night = new NightHours();
        } else if (line.equals("tell(night, \"\"\"")) {
            text = new StringBuilder();
        } else if (text != null && end.matches()) {
            rows++;
            due("the text " + text, Tape.read(night, text.toString()), end.group(1));
            text = null;
        } else if (text != null) {
            text.append(line).append('\n');
        } else if (night != null && call.matches()) {
            rows++;
            due(line, answer(call.group(1), call.group(2)), String.valueOf(call.group(3)));
        }
    }

    private Object answer(String name, String arguments) throws Exception {
        String[] words = arguments.isEmpty() ? new String[0] : arguments.split(", ");
        Object[] values = new Object[words.length];
        for (int i = 0; i < words.length; i++) {
            boolean isFlag = words[i].equals("true") || words[i].equals("false");
            values[i] = isFlag ? (Object) Boolean.valueOf(words[i]) : (Object) Integer.valueOf(words[i]);
        }
        for (Method m : NightHours.class.getMethods()) {
            if (m.getName().equals(name) && m.getParameterCount() == values.length) {
                return m.invoke(night, values);
            }
        }
        return "no such call";
    }
}
