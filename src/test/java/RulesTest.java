import java.io.IOException;
import java.lang.reflect.Field;
import java.lang.reflect.Method;
import java.lang.reflect.Modifier;
import java.nio.charset.StandardCharsets;
import java.nio.file.Files;
import java.nio.file.Path;
import java.util.ArrayList;
import java.util.HashSet;
import java.util.List;
import java.util.Set;
import java.util.regex.Matcher;
import java.util.regex.Pattern;

/** What of ../shared/LANGUAGE.md can be seen from the source's words and from the class made of it. */
public final class RulesTest {
    public static void main(String[] args) throws IOException {
        String source = Files.readString(Path.of("src/main/java/ReadPass.java"), StandardCharsets.UTF_8);
        for (int i = 0; i < source.length(); i++) {
            char c = source.charAt(i);
            if (c != '\n' && (c < 32 || c > 126)) {
                Due.is("sign " + (int) c + " of the source", 1, 0);
            }
        }
        String code = source.replaceAll("(?s)/\\*.*?\\*/", "").replaceAll("//[^\n]*", "");
        words(code);
        library(code);
        List<Class<?>> classes = new ArrayList<>();
        classes.add(ReadPass.class);
        classes.addAll(List.of(ReadPass.class.getDeclaredClasses()));
        Due.is("twelve classes at most", classes.size() <= 12 ? 1 : 0, 1);
        members(classes);
        Due.end();
    }

    private static void words(String code) {
        String[] forbidden = {"\\bimport\\b", "\\bpackage\\b", "\\btry\\b", "\\bcatch\\b", "\\bthrow\\b",
            "\\bfinally\\b", "\\bsynchronized\\b", "\\bassert\\b", "->", "::", "\"", "Exact\\(",
            "\\bdouble\\b", "\\bfloat\\b", "\\bObject\\b", "\\bvar\\b", "\\bprotected\\b", "@"};
        for (String f : forbidden) {
            Due.is(f + " in the source", Pattern.compile(f).matcher(code).find() ? 1 : 0, 0);
        }
    }

    private static void library(String code) {
        Set<String> allowed = new HashSet<>(List.of("System.arraycopy", "Integer.bitCount"));
        Matcher m = Pattern.compile("\\b(System|Integer|Long|Math|Arrays|String|Character)\\.\\w+").matcher(code);
        while (m.find()) {
            Due.is(m.group() + " in the source", allowed.contains(m.group()) ? 1 : 0, 1);
        }
    }

    private static void members(List<Class<?>> classes) {
        Set<String> face = new HashSet<>();
        for (Method m : ReadPass.class.getDeclaredMethods()) {
            if (Modifier.isPublic(m.getModifiers())) {
                face.add(m.getName());
            }
        }
        for (Class<?> c : classes) {
            int fields = 0;
            for (Field f : c.getDeclaredFields()) {
                boolean isConstant = Modifier.isStatic(f.getModifiers());
                fields += isConstant ? 0 : 1;
                Due.is(f + " is final", !isConstant || Modifier.isFinal(f.getModifiers()) ? 1 : 0, 1);
            }
            Due.is("fields of " + c.getName(), fields <= 20 ? 1 : 0, 1);
            for (Method m : c.getDeclaredMethods()) {
                boolean isOfFace = c == ReadPass.class && Modifier.isPublic(m.getModifiers());
                Due.is("name of " + m, !isOfFace && face.contains(m.getName()) ? 1 : 0, 0);
                Due.is("parameters of " + m, m.getParameterCount() <= 7 ? 1 : 0, 1);
            }
        }
    }
}
