import java.lang.reflect.Method;
import java.nio.file.Files;
import java.nio.file.Path;
import java.util.HashMap;
import java.util.Map;
import java.util.regex.Matcher;
import java.util.regex.Pattern;

/** README.md's own example, line by line: each call answers the number that stands behind it. */
public final class ReadmeTest {
    private static final Due DUE = new Due("ReadmeTest");
    private static final Pattern WRITE = Pattern.compile("write\\(x, \"(.*)\"\\);.*");
    private static final Pattern CALL = Pattern.compile("(?:int (\\w+) = )?x\\.(\\w+)\\((.*?)\\);\\s*// (-?\\d+).*");

    private final SinLenses x = new SinLenses();
    private final Map<String, Integer> names = new HashMap<>();
    private int calls;

    public static void main(String[] args) throws Exception {
        ReadmeTest test = new ReadmeTest();
        test.names.put("SinLenses.NONE", SinLenses.NONE);
        for (String line : Files.readAllLines(Path.of("README.md"))) {
            test.take(line);
        }
        DUE.says("README.md says how to use the class");
        DUE.is("calls with their answers in README.md, ten or more", test.calls >= 10 ? 1 : 0, 1);
        DUE.end();
    }

    private void take(String line) throws Exception {
        Matcher write = WRITE.matcher(line);
        Matcher call = CALL.matcher(line);
        if (write.matches()) {
            Due.write(x, write.group(1));
        } else if (call.matches()) {
            long got = answer(call.group(2), call.group(3));
            DUE.says(line.strip());
            DUE.is(call.group(2) + "(" + call.group(3) + ")", got, Long.parseLong(call.group(4)));
            names.put(String.valueOf(call.group(1)), (int) got);
            calls++;
        }
    }

    private long answer(String name, String numbers) throws Exception {
        String[] rows = numbers.isBlank() ? new String[0] : numbers.split(", ");
        Object[] given = new Object[rows.length];
        Class<?>[] types = new Class<?>[rows.length];
        for (int i = 0; i < rows.length; i++) {
            Integer named = names.get(rows[i]);
            given[i] = named != null ? named : Integer.valueOf(rows[i]);
            types[i] = int.class;
        }
        Method method = SinLenses.class.getMethod(name, types);
        return ((Number) method.invoke(x, given)).longValue();
    }
}
