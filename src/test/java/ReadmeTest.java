import java.nio.file.Files;
import java.nio.file.Path;
import java.util.Arrays;
import java.util.regex.Matcher;
import java.util.regex.Pattern;

/** The calls of README.md's example answer what stands behind them there. */
public final class ReadmeTest {
    private static final Pattern LAID = Pattern.compile("lay\\(book, \"(.*)\"\\);");
    private static final Pattern CALLED = Pattern.compile("book\\.(\\w+)\\((.*)\\); +// (-?\\d+).*");
    /** Fewer would mean that the example is no longer found. */
    private static final int CALLS_AT_LEAST = 15;

    public static void main(String[] args) throws Exception {
        Probe probe = new Probe();
        int calls = 0;
        for (String line : Files.readAllLines(Path.of("README.md"))) {
            Matcher laid = LAID.matcher(line);
            Matcher called = CALLED.matcher(line);
            if (laid.matches()) {
                probe.lay(laid.group(1).replace("\\n", "\n"));
            } else if (called.matches()) {
                int got = call(probe.book(), called.group(1), called.group(2));
                Probe.due(line, got, Integer.parseInt(called.group(3)));
                calls++;
            }
        }
        Probe.due("the example is there", calls >= CALLS_AT_LEAST, true);
        Probe.due("the sheet", probe.sheet(), "autumn.south\nspring.north\n");
        Probe.finish();
    }

    private static int call(SetBook book, String name, String told) throws Exception {
        Object[] numbers = told.isEmpty() ? new Object[0]
                : Arrays.stream(told.split(", ")).map(Integer::valueOf).toArray();
        Class<?>[] types = new Class<?>[numbers.length];
        Arrays.fill(types, int.class);
        return (Integer) SetBook.class.getMethod(name, types).invoke(book, numbers);
    }
}
