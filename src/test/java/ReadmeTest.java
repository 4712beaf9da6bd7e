import java.lang.reflect.Method;
import java.lang.reflect.Modifier;
import java.nio.file.Files;
import java.nio.file.Path;
import java.util.ArrayList;
import java.util.List;
import java.util.regex.Matcher;
import java.util.regex.Pattern;

/** README.md tells the truth: its example is performed, its texts are told, no call is left out. */
public final class ReadmeTest {
    private static final Pattern CALL = Pattern.compile("^tax\\.(\\w+)\\(([^)]*)\\);\\s+// (-?\\d+)");

    public static void main(String[] args) throws Exception {
        List<String> lines = Files.readAllLines(Path.of("README.md"));
        exampleAnswersAsItSays(lines);
        textsAnswerAsTheySay(lines);
        everyCallIsNamed(String.join("\n", lines));
        everyTestIsNamed(String.join("\n", lines));
        Due.finish();
    }

    private static void exampleAnswersAsItSays(List<String> lines) throws Exception {
        CornerTax tax = new CornerTax();
        int calls = 0;
        for (String line : lines) {
            if (line.startsWith("tax.")) {
                Matcher call = CALL.matcher(line);
                Due.holds("README tells an answer: " + line, call.find());
                calls++;
                Due.is("README: " + line, Long.parseLong(call.group(3)), answer(tax, call.group(1), call.group(2)));
            }
        }
        Due.holds("README has an example", calls >= 10);
    }

    private static long answer(CornerTax tax, String name, String list) throws Exception {
        Method method = null;
        for (Method m : CornerTax.class.getDeclaredMethods()) {
            if (m.getName().equals(name) && Modifier.isPublic(m.getModifiers())) method = m;
        }
        String[] words = list.isEmpty() ? new String[0] : list.split(", ");
        Class<?>[] types = method.getParameterTypes();
        Object[] arguments = new Object[types.length];
        for (int i = 0; i < types.length; i++) {
            if (types[i] == long.class) {
                arguments[i] = Long.parseLong(words[i]);
            } else {
                arguments[i] = Integer.parseInt(words[i]);
            }
        }
        return ((Number) method.invoke(tax, arguments)).longValue();
    }

    /** A text stands behind four blanks; the line that ends in ":" above it tells the answer. */
    private static void textsAnswerAsTheySay(List<String> lines) {
        List<String> texts = new ArrayList<>();
        List<Integer> answers = new ArrayList<>();
        int said = 0;
        for (String line : lines) {
            Matcher answer = Pattern.compile("is answered with (-?\\d+)").matcher(line);
            if (answer.find()) said = Integer.parseInt(answer.group(1));
            if (line.matches(" {4}\\w[^.]*;[^.]*")) {
                texts.add(line.substring(4));
                answers.add(said);
            }
        }
        Due.is("texts of README", 2, texts.size());
        for (int i = 0; i < texts.size(); i++) {
            CornerTax tax = new CornerTax();
            Due.is("README: " + texts.get(i), answers.get(i), Due.told(tax, texts.get(i)));
            boolean isFaulty = answers.get(i) < 0;
            Due.is("README: streets that came", isFaulty ? 0 : 8, tax.count(1));
        }
    }

    private static void everyCallIsNamed(String readme) {
        for (Method m : CornerTax.class.getDeclaredMethods()) {
            if (Modifier.isPublic(m.getModifiers())) {
                Due.holds("README names " + m.getName(), readme.contains("`" + m.getName() + "`"));
            }
        }
    }

    private static void everyTestIsNamed(String readme) throws Exception {
        try (var files = Files.list(Path.of("src/test/java"))) {
            for (Path file : files.toList()) {
                String name = file.getFileName().toString().replace(".java", "");
                if (name.endsWith("Test")) Due.holds("README names " + name, readme.contains("| " + name + " |"));
            }
        }
    }
}
