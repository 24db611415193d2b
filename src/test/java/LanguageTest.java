import java.io.IOException;
import java.lang.reflect.Constructor;
import java.lang.reflect.Field;
import java.lang.reflect.Method;
import java.lang.reflect.Modifier;
import java.nio.file.Files;
import java.nio.file.Path;
import java.util.Arrays;
import java.util.Set;
import java.util.TreeSet;
import java.util.regex.Matcher;
import java.util.regex.Pattern;

/** The public face, and what of the rules for the source can be seen by reading it. */
public final class LanguageTest {
    private static final String FACE = "best()I bestOf(int)I bestRow(int)I byLap(int)I cost()I course()I cut()I "
            + "ends(int,int,int)I highest()I lap(int)I lay(int,int)I layBest()I many(int)I must(int,int,int)I "
            + "ofCourse(int,int)I open(int,int)I piece(int,int)I pieces(int)I price(int,int)I row(int,int)I "
            + "take()I walls()J width(int)I wrong(int)I";
    private static final String CONSTANTS = "FULL LOST NONE OUTSIDE STATE UNKNOWN";
    private static final String[] FORBIDDEN = {
        "\\bthrow\\b", "\\bthrows\\b", "\\btry\\b", "\\bcatch\\b", "\\bsynchronized\\b", "\\bassert\\b",
        "->", "::", "\\bpackage\\b", "\\w+Exact\\b", "\\bSystem\\.(?!arraycopy)", "\\bMath\\.random\\b",
        "\\bequals\\b", "\\bhashCode\\b", "\\btoString\\b", "\\bstatic\\s*\\{", "\\bRandom\\b", "\\bThread\\b",
        "\\bprotected\\b", "\\bnative\\b", "@"
    };

    private static final Check CHECK = new Check();

    public static void main(String[] args) throws IOException {
        face();
        for (Class<?> one : BondedWall.class.getDeclaredClasses()) {
            inside(one);
        }
        CHECK.holds("at most twelve classes", BondedWall.class.getDeclaredClasses().length < 12);
        if (args.length > 0) {
            source(Files.readString(Path.of(args[0])));
        }
        CHECK.end();
    }

    private static void face() {
        Class<?> wall = BondedWall.class;
        CHECK.holds("public and final", Modifier.isPublic(wall.getModifiers()) && Modifier.isFinal(wall.getModifiers()));
        CHECK.holds("without a package", wall.getPackageName().isEmpty());
        Set<String> methods = new TreeSet<>();
        Set<String> names = new TreeSet<>();
        for (Method method : wall.getDeclaredMethods()) {
            if (Modifier.isPublic(method.getModifiers())) {
                methods.add(told(method));
                names.add(method.getName());
            }
        }
        CHECK.holds("the methods of the face: " + methods, String.join(" ", methods).equals(FACE));
        for (Method method : wall.getDeclaredMethods()) {
            boolean isPrivate = Modifier.isPrivate(method.getModifiers());
            CHECK.holds(method + " is public or private", isPrivate || Modifier.isPublic(method.getModifiers()));
            CHECK.holds(method + " has a name of its own", !isPrivate || !names.contains(method.getName()));
        }
        Set<String> constants = new TreeSet<>();
        for (Field field : wall.getDeclaredFields()) {
            if (Modifier.isPublic(field.getModifiers())) {
                constants.add(field.getName());
                CHECK.holds(field + " is a constant", Modifier.isStatic(field.getModifiers()));
            } else {
                CHECK.holds(field + " is private", Modifier.isPrivate(field.getModifiers()));
            }
        }
        CHECK.holds("the constants of the face: " + constants, String.join(" ", constants).equals(CONSTANTS));
        Constructor<?>[] constructors = wall.getDeclaredConstructors();
        CHECK.holds("one constructor", constructors.length == 1 && constructors[0].getParameterCount() == 0
                && Modifier.isPublic(constructors[0].getModifiers()));
        fields(wall);
    }

    private static String told(Method method) {
        StringBuilder text = new StringBuilder(method.getName()).append('(');
        String[] types = Arrays.stream(method.getParameterTypes()).map(Class::getName).toArray(String[]::new);
        return text.append(String.join(",", types)).append(method.getReturnType() == long.class ? ")J" : ")I").toString();
    }

    private static void inside(Class<?> one) {
        CHECK.holds(one + " is static", Modifier.isStatic(one.getModifiers()));
        for (Method method : one.getDeclaredMethods()) {
            CHECK.holds(method + " takes at most seven", method.getParameterCount() <= 7);
            boolean isOfTheFace = Arrays.stream(BondedWall.class.getMethods()).anyMatch(
                    m -> m.getDeclaringClass() == BondedWall.class && m.getName().equals(method.getName()));
            CHECK.holds(method + " has a name of its own", !isOfTheFace);
        }
        fields(one);
    }

    private static void fields(Class<?> one) {
        int own = 0;
        for (Field field : one.getDeclaredFields()) {
            if (Modifier.isStatic(field.getModifiers())) {
                CHECK.holds(field + " is final", Modifier.isFinal(field.getModifiers()));
            } else {
                own++;
            }
        }
        CHECK.holds(one + " has at most twenty fields", own <= 20);
    }

    private static void source(String text) {
        CHECK.holds("signs 1 to 127", text.chars().allMatch(sign -> sign >= 1 && sign <= 127));
        String code = text.replaceAll("(?s)/\\*.*?\\*/", "").replaceAll("//[^\n]*", "");
        for (String word : FORBIDDEN) {
            Matcher found = Pattern.compile(word).matcher(code);
            CHECK.holds("no " + word, !found.find());
        }
        Matcher imports = Pattern.compile("import ([^;]*);").matcher(code);
        while (imports.find()) {
            CHECK.holds("import " + imports.group(1), imports.group(1).equals("java.util.Arrays"));
        }
        methodsAreShort(text);
    }

    /** A method begins with a line that ends in ') {' and stands as deep as the line that ends it. */
    private static void methodsAreShort(String text) {
        String[] lines = text.split("\n");
        Pattern begin = Pattern.compile("^( {4}| {8})(public|private|static|final|int|long|boolean|void|[A-Z]\\w*)\\b.*\\) \\{$");
        int methods = 0;
        for (int i = 0; i < lines.length; i++) {
            Matcher found = begin.matcher(lines[i]);
            if (!found.find()) {
                continue;
            }
            methods++;
            int end = i;
            while (end < lines.length && !lines[end].equals(found.group(1) + "}")) {
                end++;
            }
            CHECK.holds("sixty lines at most: " + lines[i].trim(), end - i < 60);
        }
        CHECK.holds("methods were found", methods > 40);
    }
}
