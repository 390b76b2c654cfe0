import java.io.IOException;
import java.lang.reflect.InvocationTargetException;
import java.lang.reflect.Method;
import java.nio.charset.StandardCharsets;
import java.nio.file.Files;
import java.nio.file.Path;
import java.util.HashSet;
import java.util.Set;
import java.util.regex.Matcher;
import java.util.regex.Pattern;

/** The example of README.md: each row's call answers what the row says. */
public final class ReadmeTest {
    private static final Pattern ROW = Pattern.compile("x\\.(\\w+)\\(([^)]*)\\);\\s*// (-?\\d+)\\b.*");

    public static void main(String[] args) throws IOException, ReflectiveOperationException {
        String readme = Files.readString(Path.of("README.md"), StandardCharsets.UTF_8);
        Matcher block = Pattern.compile("(?s)```java\n(.*?)```").matcher(readme);
        int rows = 0;
        while (block.find()) {
            rows += holds(block.group(1).split("\n"));
        }
        Due.is("there is an example in README.md", rows > 0 ? 1 : 0, 1);
        namesAllCalls(readme);
        Due.end();
    }

    private static int holds(String[] rows) throws ReflectiveOperationException {
        Due.same("the first row", rows[0], "ReadPass x = new ReadPass();");
        ReadPass x = new ReadPass();
        for (int k = 1; k < rows.length; k++) {
            Matcher row = ROW.matcher(rows[k]);
            if (row.matches()) {
                long want = Long.parseLong(row.group(3));
                Due.is("README.md: " + rows[k], answer(x, row.group(1), row.group(2)), want);
            } else {
                Due.same("a row of README.md that tells no answer", rows[k], "");
            }
        }
        return rows.length - 1;
    }

    private static long answer(ReadPass x, String name, String words) throws ReflectiveOperationException {
        String[] given = words.isEmpty() ? new String[0] : words.split(", ");
        for (Method m : ReadPass.class.getMethods()) {
            if (m.getDeclaringClass() == ReadPass.class && m.getName().equals(name)
                    && m.getParameterCount() == given.length) {
                Object[] numbers = new Object[given.length];
                for (int k = 0; k < given.length; k++) {
                    numbers[k] = number(m.getParameterTypes()[k], given[k]);
                }
                try {
                    return (Integer) m.invoke(x, numbers);
                } catch (InvocationTargetException e) {
                    throw new IllegalStateException(name + " throws", e.getCause());
                }
            }
        }
        throw new IllegalStateException("there is no call " + name + "(" + words + ")");
    }

    private static Object number(Class<?> type, String word) {
        if (type == boolean.class) {
            return word.equals("true");
        }
        long number = Long.decode(word.replaceAll("L$", ""));
        if (type == long.class) {
            return number;
        }
        return (int) number;
    }

    /** The tables name each call of the face, and no other. */
    private static void namesAllCalls(String readme) {
        Set<String> face = new HashSet<>();
        for (Method m : ReadPass.class.getDeclaredMethods()) {
            if (java.lang.reflect.Modifier.isPublic(m.getModifiers())) {
                face.add(m.getName());
            }
        }
        String tables = readme.replaceAll("(?m)^[^|].*$", "");
        Set<String> named = new HashSet<>();
        Matcher name = Pattern.compile("`(\\w+)`").matcher(tables);
        while (name.find()) {
            named.add(name.group(1));
        }
        Due.same("calls in the tables", new java.util.TreeSet<>(named).toString(),
                new java.util.TreeSet<>(face).toString());
    }
}
