import java.lang.reflect.Method;
import java.nio.file.Files;
import java.nio.file.Path;
import java.util.regex.Matcher;
import java.util.regex.Pattern;

/** README.md's example is true: each of its lines is asked of one desk, and answers what stands behind it. */
public final class ReadmeTest {
    private static final Check CHECK = new Check("ReadmeTest");
    private static final Pattern LINE = Pattern.compile("desk\\.(\\w+)\\(([^)]*)\\); *// (true|false|-?\\d+)\\b.*");

    public static void main(String[] args) throws Exception {
        String readme = Files.readString(Path.of("README.md"));
        int from = readme.indexOf("```java\n");
        int to = readme.indexOf("```", from + 3);
        CarillonDesk desk = new CarillonDesk();
        int asked = 0;
        for (String line : readme.substring(from, to).split("\n")) {
            if (line.startsWith("desk.")) {
                Matcher m = LINE.matcher(line);
                CHECK.due("a call with its answer: " + line, m.matches(), true);
                CHECK.due(line, answer(desk, m.group(1), m.group(2)), number(m.group(3)));
                asked++;
            }
        }
        CHECK.due("lines were found (" + asked + ")", asked > 30, true);
        CHECK.finish();
    }

    private static long answer(CarillonDesk desk, String name, String told) throws Exception {
        String[] parts = told.isEmpty() ? new String[0] : told.split(", *");
        Object[] values = new Object[parts.length];
        Class<?>[] types = new Class<?>[parts.length];
        for (int i = 0; i < parts.length; i++) {
            values[i] = Integer.decode(parts[i]);
            types[i] = int.class;
        }
        Method method = CarillonDesk.class.getMethod(name, types);
        return number(String.valueOf(method.invoke(desk, values)));
    }

    private static long number(String answer) {
        return answer.equals("true") ? 1 : answer.equals("false") ? 0 : Long.parseLong(answer);
    }
}
