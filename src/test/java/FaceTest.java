import java.io.IOException;
import java.lang.reflect.Constructor;
import java.lang.reflect.Field;
import java.lang.reflect.Method;
import java.lang.reflect.Modifier;
import java.nio.file.Files;
import java.nio.file.Path;
import java.util.Arrays;
import java.util.List;
import java.util.Set;
import java.util.TreeSet;
import java.util.regex.Matcher;
import java.util.regex.Pattern;

/** The public face and the rules of LANGUAGE.md that can be seen without much reading. */
public final class FaceTest {
    private static final String[] METHODS = {"paste int int int int int int", "tear int", "coat int int",
        "scrape int int int", "sun int int", "buy int int int", "buyAll", "pass int", "cell int int int",
        "poster int int", "varnish int int int", "count int", "sunOf int", "ifPassed int int",
        "willShow int int int", "nextChange", "comesToLight int", "bestTorn int", "put long", "wipe", "fault", "undo",
        "save int", "restore int"};
    private static final String[] CONSTANTS = {"NO_SUCH", "BAD_VALUE", "BAD_TEXT", "TOO_MANY", "NOT_POSSIBLE", "NONE"};
    private static final String[] FORBIDDEN = {"\\bthrow\\b", "\\btry\\b", "\\bcatch\\b", "\\bassert\\b",
        "\\bsynchronized\\b", "\\bimport\\b", "\\bpackage\\b", "->", "::", "\\bvolatile\\b", "Exact\\(",
        "\\bfinally\\b", "\\bnative\\b", "%\\s*0", "static\\s*\\{"};
    private static final Set<String> LIBRARY = Set.of("Math.min", "Math.max", "System.arraycopy");
    private static final Pattern METHOD =
            Pattern.compile("(?m)^( {4}| {8})(private |public |static )*\\w+ \\w+\\([^;]*\\{$");

    private FaceTest() { }

    public static void main(String[] args) throws IOException, IllegalAccessException {
        Due due = new Due();
        constants(due);
        methods(due);
        hiddenMembers(due);
        insideClasses(due);
        String text = Files.readString(Path.of("src/main/java/VarnishPrices.java"));
        source(due, text);
        library(due, text);
        lengths(due, text);
        due.end();
    }

    private static void constants(Due due) throws IllegalAccessException {
        Set<String> found = new TreeSet<>();
        for (Field field : VarnishPrices.class.getDeclaredFields()) {
            if (!Modifier.isPrivate(field.getModifiers())) {
                found.add(field.getName());
                due.due(field.getName() + " is public static final", field.getModifiers(),
                        Modifier.PUBLIC | Modifier.STATIC | Modifier.FINAL);
            }
        }
        due.same("constants", found.toString(), new TreeSet<>(Arrays.asList(CONSTANTS)).toString());
        for (int i = 0; i < CONSTANTS.length; i++) {
            for (Field field : VarnishPrices.class.getFields()) {
                if (field.getName().equals(CONSTANTS[i])) {
                    due.due(CONSTANTS[i], field.getInt(null), -1 - i);
                }
            }
        }
    }

    private static void methods(Due due) {
        Set<String> found = new TreeSet<>();
        Set<String> names = new TreeSet<>();
        for (Method method : VarnishPrices.class.getDeclaredMethods()) {
            if (Modifier.isPrivate(method.getModifiers())) {
                continue;
            }
            StringBuilder text = new StringBuilder(method.getName());
            for (Class<?> type : method.getParameterTypes()) {
                text.append(' ').append(type.getSimpleName());
            }
            found.add(text.toString());
            names.add(method.getName());
            due.due(method.getName() + " is public", method.getModifiers(), Modifier.PUBLIC);
            due.same(method.getName() + " answers", method.getReturnType().getName(), "int");
        }
        due.same("methods", found.toString(), new TreeSet<>(Arrays.asList(METHODS)).toString());
        for (Method method : VarnishPrices.class.getDeclaredMethods()) {
            due.holds("no private method is named " + method.getName(),
                    !Modifier.isPrivate(method.getModifiers()) || !names.contains(method.getName()));
        }
    }

    private static void hiddenMembers(Due due) {
        due.due("class", VarnishPrices.class.getModifiers(), Modifier.PUBLIC | Modifier.FINAL);
        Constructor<?>[] constructors = VarnishPrices.class.getDeclaredConstructors();
        due.due("constructors", constructors.length, 1);
        due.due("parameters of the constructor", constructors[0].getParameterCount(), 0);
        due.due("the constructor is public", constructors[0].getModifiers(), Modifier.PUBLIC);
    }

    private static void insideClasses(Due due) {
        Set<String> publicNames = new TreeSet<>();
        for (String method : METHODS) {
            publicNames.add(method.split(" ")[0]);
        }
        List<Class<?>> inside = List.of(VarnishPrices.class.getDeclaredClasses());
        due.holds("at most twelve classes", inside.size() <= 11);
        for (Class<?> type : inside) {
            due.holds(type.getName() + " is static", Modifier.isStatic(type.getModifiers()));
            due.holds(type.getName() + " isn't public", !Modifier.isPublic(type.getModifiers()));
            due.holds(type.getName() + " has no classes inside", type.getDeclaredClasses().length == 0);
            for (Method method : type.getDeclaredMethods()) {
                due.holds(method + " has no public one's name", !publicNames.contains(method.getName()));
                due.holds(method + " takes at most seven parameters", method.getParameterCount() <= 7);
            }
            for (Field field : type.getDeclaredFields()) {
                due.holds(field + " is final or not static",
                        Modifier.isFinal(field.getModifiers()) || !Modifier.isStatic(field.getModifiers()));
            }
        }
    }

    private static void source(Due due, String text) {
        String code = text.replaceAll("(?s)/\\*.*?\\*/", "").replaceAll("//[^\n]*", "").replaceAll("'[^']*'", "' '");
        for (String forbidden : FORBIDDEN) {
            due.holds("no " + forbidden, !Pattern.compile(forbidden).matcher(code).find());
        }
        due.holds("ASCII alone", text.chars().allMatch(sign -> sign < 128));
    }

    /** What is used by a class's name is the library's few functions or the program's own. */
    private static void library(Due due, String text) {
        Set<String> own = new TreeSet<>();
        for (Class<?> type : VarnishPrices.class.getDeclaredClasses()) {
            own.add(type.getSimpleName());
        }
        String code = text.replaceAll("(?s)/\\*.*?\\*/", "").replaceAll("//[^\n]*", "");
        Matcher used = Pattern.compile("\\b([A-Z]\\w*[a-z]\\w*)\\.(\\w+)").matcher(code);
        while (used.find()) {
            due.holds(used.group() + " is allowed", LIBRARY.contains(used.group()) || own.contains(used.group(1)));
        }
        due.holds("no texts are joined", code.indexOf('"') < 0);
    }

    private static void lengths(Due due, String text) {
        int methods = 0;
        Matcher method = METHOD.matcher(text);
        while (method.find()) {
            methods++;
            int end = text.indexOf("\n" + method.group(1) + "}", method.end());
            long lines = text.substring(method.start(), Math.max(method.start(), end)).lines().count();
            due.holds("some lines and at most sixty: " + method.group().strip(), lines > 1 && lines <= 60);
        }
        due.holds("methods are found", methods > METHODS.length);
    }
}
