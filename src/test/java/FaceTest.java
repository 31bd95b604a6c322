import java.io.IOException;
import java.lang.reflect.Constructor;
import java.lang.reflect.Field;
import java.lang.reflect.Method;
import java.lang.reflect.Modifier;
import java.nio.file.Files;
import java.nio.file.Path;
import java.util.ArrayList;
import java.util.List;
import java.util.Set;
import java.util.TreeSet;
import java.util.regex.Pattern;

/** The public face, and those rules of LANGUAGE.md that can be seen from outside or by words. */
public final class FaceTest {
    private static final String FACE = "about(int,int) added(int) bend(int,int) bentLater(int,int) book(int) chokes(int) "
            + "clash(int,int) clashes(int) count(int) fewest(int) found(int,int) group(int,int,int) heard(int,int,int) "
            + "keys(int) least(int,int) lost(int,int) meant() measure(int,int) misfit(int,int) note(int,int,int,int) order() "
            + "passes(int) pitch(int) pressed(int,int) rest(int) setUp(int,int) share(int,int,boolean) sharers(int) "
            + "step(int,int,int,int) strike(int,int,int) tension(int,int) together(int,int) trills(int,boolean) tune(int) "
            + "tuneAll() use(int) wipe(int) worst() wrong()";
    private static final String[] NOT_ALLOWED = {"throw", "throws", "try", "catch", "finally", "synchronized", "assert",
        "import", "package", "protected", "Object", "System", "->", "::"};

    public static void main(String[] args) throws IOException {
        methods();
        fields();
        constructors();
        classesInside();
        sizes();
        words();
        shortMethods();
        Due.end();
    }

    private static String signature(Method method) {
        StringBuilder text = new StringBuilder(method.getName()).append('(');
        for (Class<?> type : method.getParameterTypes()) {
            if (text.charAt(text.length() - 1) != '(') text.append(',');
            text.append(type.getSimpleName());
        }
        return text.append(')').toString();
    }

    static void methods() {
        Set<String> seen = new TreeSet<>();
        Set<String> names = new TreeSet<>();
        for (Method method : TwoKeys.class.getDeclaredMethods()) {
            if (!Modifier.isPublic(method.getModifiers())) continue;
            seen.add(signature(method));
            names.add(method.getName());
            Due.holds(method.getName() + " answers an int", method.getReturnType() == int.class);
            Due.holds(method.getName() + " is not static", !Modifier.isStatic(method.getModifiers()));
        }
        Due.holds("the face is " + seen, String.join(" ", seen).equals(FACE));
        for (Method method : TwoKeys.class.getDeclaredMethods()) {
            int is = method.getModifiers();
            if (Modifier.isPublic(is) || method.isSynthetic()) continue;
            Due.holds(method.getName() + " is private", Modifier.isPrivate(is));
            Due.holds(method.getName() + " bears a name of its own", !names.contains(method.getName()));
        }
        Due.holds("final", Modifier.isFinal(TwoKeys.class.getModifiers()));
    }

    static void fields() {
        for (Field field : TwoKeys.class.getDeclaredFields()) {
            int is = field.getModifiers();
            boolean known = Set.of("UNKNOWN", "BAD", "STATE", "FULL", "NONE").contains(field.getName());
            Due.holds(field.getName() + " is seen as due", known ? Modifier.isPublic(is) : Modifier.isPrivate(is));
            Due.holds(field.getName() + " is no static state", !Modifier.isStatic(is) || Modifier.isFinal(is));
        }
        Due.is("UNKNOWN", TwoKeys.UNKNOWN, -100001);
        Due.is("BAD", TwoKeys.BAD, -100002);
        Due.is("STATE", TwoKeys.STATE, -100003);
        Due.is("FULL", TwoKeys.FULL, -100004);
        Due.is("NONE", TwoKeys.NONE, -100009);
    }

    static void constructors() {
        Constructor<?>[] all = TwoKeys.class.getDeclaredConstructors();
        Due.is("constructors", all.length, 1);
        Due.is("parameters", all[0].getParameterCount(), 0);
        Due.holds("public", Modifier.isPublic(all[0].getModifiers()));
    }

    static void classesInside() {
        Class<?>[] all = TwoKeys.class.getDeclaredClasses();
        Due.holds("few classes", all.length < 12);
        for (Class<?> inside : all) {
            Due.holds(inside + " is static", Modifier.isStatic(inside.getModifiers()));
            Due.holds(inside + " is private", Modifier.isPrivate(inside.getModifiers()));
        }
    }

    /** Seven parameters a method, some twenty fields a class beside its constants; no field changes that is static. */
    static void sizes() {
        List<Class<?>> all = new ArrayList<>(List.of(TwoKeys.class.getDeclaredClasses()));
        all.add(TwoKeys.class);
        for (Class<?> one : all) {
            int fields = 0;
            for (Field field : one.getDeclaredFields()) {
                boolean fixed = Modifier.isStatic(field.getModifiers());
                if (fixed) Due.holds(field + " is final", Modifier.isFinal(field.getModifiers()));
                if (!fixed) fields++;
            }
            Due.holds(one + " has few fields", fields <= 20);
            for (Method method : one.getDeclaredMethods()) {
                Due.holds(method + " takes few parameters", method.getParameterCount() <= 7);
            }
        }
    }

    /** Some sixty lines a method: by how deep braces are, methods of the class inside being one deeper. */
    static void shortMethods() throws IOException {
        int depth = 0;
        int lines = 0;
        boolean inClassInside = false;
        for (String line : code().split("\n")) {
            if (depth == 1 && line.contains(" class ")) inClassInside = true;
            int level = inClassInside ? 2 : 1;
            lines = depth > level ? lines + 1 : 0;
            if (lines > 60) Due.is("lines up to " + line, lines, 60);
            depth += line.chars().map(sign -> sign == '{' ? 1 : sign == '}' ? -1 : 0).sum();
            if (depth == 1) inClassInside = false;
        }
        Due.is("braces left open", depth, 0);
    }

    private static String code() throws IOException {
        String text = Files.readString(Path.of("src/main/java/TwoKeys.java"));
        return text.replaceAll("(?s)/\\*.*?\\*/", " ").replaceAll("//[^\n]*", " ");
    }

    static void words() throws IOException {
        String text = Files.readString(Path.of("src/main/java/TwoKeys.java"));
        String code = code();
        for (String word : NOT_ALLOWED) {
            String border = Character.isLetter(word.charAt(0)) ? "\\b" : "";
            Due.holds("no " + word, !Pattern.compile(border + Pattern.quote(word) + border).matcher(code).find());
        }
        for (int i = 0; i < text.length(); i++) {
            if (text.charAt(i) > 126) Due.is("sign at " + i, text.charAt(i), 126);
        }
    }
}
