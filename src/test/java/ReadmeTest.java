import java.io.IOException;
import java.lang.reflect.Method;
import java.lang.reflect.Modifier;
import java.nio.file.Files;
import java.nio.file.Path;
import java.util.Arrays;
import java.util.List;
import java.util.regex.Matcher;
import java.util.regex.Pattern;
import java.util.stream.Stream;

/** README.md: it names each call and each test, and its outing is answered as it says. */
public final class ReadmeTest {
    private static final Pattern WRITTEN = Pattern.compile("write\\(g, \"(.*)\"\\);");
    private static final Pattern ASKED = Pattern.compile("g\\.(\\w+)\\((.*)\\); +// (-?\\d+)\\b.*");

    private static final Check check = new Check("ReadmeTest");

    public static void main(String[] args) throws Exception {
        check.startCase("README.md");
        List<String> page = Files.readAllLines(Path.of("README.md"));
        namesEachCall(String.join("\n", page));
        namesEachTest(String.join("\n", page));
        outing(page);
        check.finish();
    }

    private static void namesEachCall(String page) {
        for (Method call : PramGardens.class.getDeclaredMethods()) {
            if (Modifier.isPublic(call.getModifiers())) {
                check.is("names " + call.getName(), page.contains("`" + call.getName() + "`"), true);
            }
        }
    }

    private static void namesEachTest(String page) throws IOException {
        try (Stream<Path> files = Files.list(Path.of("src/test/java"))) {
            for (Path file : files.filter(one -> one.toString().endsWith("Test.java")).toList()) {
                String name = file.getFileName().toString().replace(".java", "");
                check.is("names " + name, page.contains("`" + name + "`"), true);
            }
        }
    }

    private static void outing(List<String> page) throws Exception {
        int first = page.indexOf("PramGardens g = new PramGardens();");
        check.is("an outing starts", first >= 0, true);
        PramGardens g = new PramGardens();
        int asked = 0;
        for (int i = first + 1; i < page.size() && !page.get(i).equals("```"); i++) {
            Matcher written = WRITTEN.matcher(page.get(i));
            Matcher call = ASKED.matcher(page.get(i));
            if (written.matches()) {
                Check.write(g, written.group(1));
            } else if (call.matches()) {
                check.is(page.get(i), answer(g, call.group(1), call.group(2)), Long.parseLong(call.group(3)));
                asked++;
            } else {
                check.fault("can't be read: " + page.get(i));
            }
        }
        check.is("calls were asked", asked > 0, true);
    }

    private static long answer(PramGardens g, String name, String told) throws Exception {
        Object[] arguments = told.isEmpty() ? new Object[0] : Stream.of(told.split(", ")).map(Integer::valueOf).toArray();
        Class<?>[] types = new Class<?>[arguments.length];
        Arrays.fill(types, int.class);
        return ((Number) PramGardens.class.getMethod(name, types).invoke(g, arguments)).longValue();
    }
}
