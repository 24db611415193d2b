import java.io.IOException;
import java.lang.reflect.Field;
import java.lang.reflect.Method;
import java.lang.reflect.Modifier;
import java.nio.file.Files;
import java.nio.file.Path;
import java.util.regex.Matcher;
import java.util.regex.Pattern;

/**
 * README.md against the class: each line of its example is called in turn and answered as its
 * comment begins ('// 13: ..', '// NONE: ..'), and each call and constant is named.
 */
public final class ReadmeTest {
    private static final Pattern EXAMPLE = Pattern.compile("(?s)```java\n(.*?)```");
    private static final Pattern LINE = Pattern.compile("wall\\.(\\w+)\\(([^)]*)\\); +// ([-\\w]+): .+");
    private static final Check CHECK = new Check();

    public static void main(String[] args) throws ReflectiveOperationException, IOException {
        if (args.length < 3) {
            System.out.println("there is no README to read");
            return;
        }
        String readme = Files.readString(Path.of(args[2]));
        Matcher example = EXAMPLE.matcher(readme);
        boolean found = example.find();
        CHECK.holds("there is an example", found);
        if (found) {
            follow(example.group(1).split("\n"));
        }
        for (Method method : BondedWall.class.getDeclaredMethods()) {
            if (Modifier.isPublic(method.getModifiers())) {
                CHECK.holds(method.getName() + " is named", readme.contains("`" + method.getName() + "`"));
            }
        }
        for (Field constant : BondedWall.class.getFields()) {
            CHECK.holds(constant.getName() + " is named", readme.contains("`" + constant.getName() + "`"));
        }
        CHECK.end();
    }

    private static void follow(String[] lines) throws ReflectiveOperationException {
        CHECK.holds("a wall is made first", lines[0].equals("BondedWall wall = new BondedWall();"));
        BondedWall wall = new BondedWall();
        for (int i = 1; i < lines.length; i++) {
            Matcher line = LINE.matcher(lines[i]);
            boolean isCall = line.matches();
            CHECK.holds("'" + lines[i] + "' is a call with its answer", isCall);
            if (isCall) {
                CHECK.due(lines[i], answer(wall, line.group(1), line.group(2)), number(line.group(3)));
            }
        }
    }

    private static long answer(BondedWall wall, String name, String told) throws ReflectiveOperationException {
        String[] texts = told.isEmpty() ? new String[0] : told.split(", ");
        Class<?>[] types = new Class<?>[texts.length];
        Object[] numbers = new Object[texts.length];
        for (int i = 0; i < texts.length; i++) {
            types[i] = int.class;
            numbers[i] = (int) number(texts[i]);
        }
        return ((Number) BondedWall.class.getMethod(name, types).invoke(wall, numbers)).longValue();
    }

    private static long number(String text) throws ReflectiveOperationException {
        if (text.startsWith("0b")) {
            return Integer.parseInt(text.substring(2), 2);
        }
        if (Character.isUpperCase(text.charAt(0))) {
            String name = text.substring(text.indexOf('.') + 1);
            return ((Number) BondedWall.class.getField(name).get(null)).longValue();
        }
        return Long.parseLong(text);
    }
}
