import java.io.IOException;
import java.nio.file.Files;
import java.nio.file.Path;
import java.util.regex.Matcher;
import java.util.regex.Pattern;

/** The calls of README.md's example, in their order, answer what is written behind them. */
public final class ReadmeTest {
    private static final Pattern CODE = Pattern.compile("new int\\[\\] \\{([-0-9, ]+)\\}");
    private static final Pattern CALL = Pattern.compile("t\\.(\\w+)\\((\\d*)\\);\\s+// (-?\\d+):");

    public static void main(String[] args) throws IOException {
        String text = Files.readString(Path.of("README.md"));
        String[] parts = text.split("```");
        String example = parts.length > 1 && parts[1].startsWith("java") ? parts[1] : "";
        TermSimplifier t = new TermSimplifier();
        Matcher code = CODE.matcher(example);
        Checks.due("the example has a term", true, code::find);
        for (String n : code.group(1).split(", ")) {
            Checks.due("type(" + n + ")", true, () -> t.type(Integer.parseInt(n)));
        }
        int calls = 0;
        for (Matcher call = CALL.matcher(example); call.find(); calls++) {
            String name = call.group(1);
            String argument = call.group(2);
            Checks.due(name + "(" + argument + ")", call.group(3), () -> "" + answerOf(t, name, argument));
        }
        int seen = calls;
        Checks.due("the example has calls whose answers are told", true, () -> seen >= 10);
        Checks.end();
    }

    private static Object answerOf(TermSimplifier t, String name, String argument) {
        try {
            return argument.isEmpty() ? TermSimplifier.class.getMethod(name).invoke(t)
                : TermSimplifier.class.getMethod(name, int.class).invoke(t, Integer.parseInt(argument));
        } catch (ReflectiveOperationException e) {
            return e;
        }
    }
}
