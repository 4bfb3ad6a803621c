import java.lang.reflect.Constructor;
import java.lang.reflect.Field;
import java.lang.reflect.Method;
import java.lang.reflect.Modifier;
import java.nio.file.Files;
import java.nio.file.Path;
import java.util.ArrayList;
import java.util.HashSet;
import java.util.List;
import java.util.Set;
import java.util.regex.Matcher;
import java.util.regex.Pattern;

/** What of the rules of LANGUAGE.md can be seen in the source and in the compiled classes. */
final class LanguageTest {
    private static final Path SOURCE = Path.of("src/main/java/PotatoStamps.java");

    // Rules 2 to 13, by the number in front: what must not stand in the source, comments aside.
    private static final String[] FORBIDDEN = {
        "2 ->", "2 ::", "3 \\bObject\\b", "4 \\bFloat\\b", "4 \\bDouble\\b", "4 \\bString\\.", "4 \\bSystem\\.(?!arraycopy)",
        "4 Exact\\(", "4 \\bHash", "4 \\bMap\\b", "4 \\.format\\(", "5 static \\{", "6 \\btry\\b", "6 \\bcatch\\b",
        "6 \\bfinally\\b", "6 \\bassert\\b", "6 \\bsynchronized\\b", "6 \\binstanceof\\b", "6 \\.hashCode", "6 \\.toString",
        "10 \" \\+", "10 \\+ \"", "13 \\bThread\\b", "13 nanoTime", "13 Random"};

    private LanguageTest() {
    }

    public static void main(String[] args) throws Exception {
        String source = Files.readString(SOURCE).replaceAll("(?s)/\\*.*?\\*/", "").replaceAll("//[^\n]*", "");
        for (String rule : FORBIDDEN) {
            String[] parts = rule.split(" ", 2);
            Matcher matcher = Pattern.compile(parts[1]).matcher(source);
            if (matcher.find()) {
                Check.complain("rule " + parts[0] + ": '" + matcher.group() + "' stands in the source");
            }
        }
        for (char sign : source.toCharArray()) {
            Check.due("rule 4: a sign is at most 126", true, sign <= 126);
        }
        imports(source);
        methodLengths(source);
        face();
        List<Class<?>> classes = new ArrayList<>(List.of(PotatoStamps.class.getDeclaredClasses()));
        classes.add(PotatoStamps.class);
        Check.due("rule 11: at most 12 classes", true, classes.size() <= 12);
        for (Class<?> each : classes) {
            members(each);
        }
        Check.end();
    }

    private static void imports(String source) {
        Matcher matcher = Pattern.compile("import ([^;]*);").matcher(source);
        Set<String> allowed = Set.of("java.util.Arrays", "java.util.NoSuchElementException");
        while (matcher.find()) {
            Check.due("rule 4: import " + matcher.group(1), true, allowed.contains(matcher.group(1)));
        }
    }

    private static void methodLengths(String source) {
        int lines = 0;
        for (String line : source.split("\n")) {
            lines = line.matches(" {4}( {4})?\\S.*\\{") && !line.contains(" class ") ? 0 : lines + 1;
            if (line.matches(" {4}( {4})?\\}")) {
                Check.due("rule 11: a method of at most 60 lines", true, lines <= 60);
            }
        }
    }

    private static void face() {
        for (Method method : PotatoStamps.class.getDeclaredMethods()) {
            boolean isEither = Modifier.isPublic(method.getModifiers()) || Modifier.isPrivate(method.getModifiers());
            Check.due("rule 1: " + method.getName(), true, isEither);
        }
        for (Field field : PotatoStamps.class.getDeclaredFields()) {
            Check.due("rule 1: " + field.getName(), true, Modifier.isPrivate(field.getModifiers()));
        }
        Check.due("rule 1: one constructor", 1, PotatoStamps.class.getDeclaredConstructors().length);
    }

    private static void members(Class<?> each) {
        Set<String> face = new HashSet<>();
        for (Method method : PotatoStamps.class.getMethods()) {
            if (method.getDeclaringClass() == PotatoStamps.class) {
                face.add(method.getName());
            }
        }
        int fields = 0;
        for (Field field : each.getDeclaredFields()) {
            if (Modifier.isStatic(field.getModifiers())) {
                boolean isConstant = Set.of("int", "long", "boolean", "char", "String")
                    .contains(field.getType().getSimpleName()) && Modifier.isFinal(field.getModifiers());
                Check.due("rule 5: " + each.getName() + "." + field.getName(), true, isConstant);
            } else {
                fields++;
            }
        }
        Check.due("rule 11: at most 20 fields in " + each.getName(), true, fields <= 20);
        for (Method method : each.getDeclaredMethods()) {
            Check.due("rule 11: parameters of " + method.getName(), true, method.getParameterCount() <= 7);
            boolean isHidden = !Modifier.isPublic(method.getModifiers()) && face.contains(method.getName());
            Check.due("rule 1: another method " + method.getName(), false, isHidden);
        }
        for (Constructor<?> constructor : each.getDeclaredConstructors()) {
            Check.due("rule 11: parameters of a constructor", true, constructor.getParameterCount() <= 7);
        }
    }
}
