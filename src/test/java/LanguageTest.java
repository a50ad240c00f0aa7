import java.lang.reflect.Constructor;
import java.lang.reflect.Field;
import java.lang.reflect.Method;
import java.lang.reflect.Modifier;
import java.nio.file.Files;
import java.nio.file.Path;
import java.util.ArrayList;
import java.util.Arrays;
import java.util.List;
import java.util.Set;
import java.util.TreeSet;
import java.util.regex.Matcher;
import java.util.regex.Pattern;

/** What of ../shared/LANGUAGE.md can be seen from the class and its text; the text's path is the first argument. */
public final class LanguageTest {
    private static final Set<String> FACE = new TreeSet<>(List.of(
            "int letter(int)", "int blank()", "int fault()", "int player()", "int song(int,int)", "int as(int,int)",
            "int rule(int)", "int play(int)", "int skip()", "long twice(int,int)", "int party(int,int)",
            "int hear(int)", "int forget()", "int rules()", "int likely()", "int evenings(int,int,int)",
            "int image()", "int restore()", "int count(int)", "long digest()"));
    private static final Set<String> CONSTANTS = new TreeSet<>(List.of("NONE", "UNKNOWN", "OUTSIDE", "STATE", "FULL"));
    private static final String[] FORBIDDEN = {"\\bpackage\\b", "\\bimport\\b", "\\bthrows?\\b", "\\btry\\b",
        "\\bcatch\\b", "\\bsynchronized\\b", "\\bassert\\b", "\\bvolatile\\b", "\\btransient\\b", "\\bnative\\b",
        "\\bvar\\b", "->", "::", "Exact\\s*\\(", "\\bstatic\\s*\\{", "\\bSystem\\.(?!arraycopy)", "\\bObject\\b",
        "\\b(equals|hashCode|toString)\\b", "@", "\"\\s*\\+|\\+\\s*\"", "[^\\x00-\\x7f]"};
    private static int wrong = 0;

    public static void main(String[] args) throws Exception {
        String text = Files.readString(Path.of(args[0]));
        face();
        members();
        words(withoutComments(text));
        lengths(text);
        System.out.println(wrong == 0 ? "the language's rules hold" : wrong + " breaches of LANGUAGE.md");
        if (wrong != 0) {
            System.exit(1);
        }
    }

    private static void holds(boolean rule, String what) {
        if (!rule) {
            wrong++;
            System.out.println("not so: " + what);
        }
    }

    private static List<Class<?>> classes() {
        List<Class<?>> classes = new ArrayList<>(List.of(SongsAgain.class));
        for (int i = 0; i < classes.size(); i++) {
            classes.addAll(Arrays.asList(classes.get(i).getDeclaredClasses()));
        }
        return classes;
    }

    private static String told(Method method) {
        StringBuilder text = new StringBuilder(method.getReturnType().getName() + " " + method.getName() + "(");
        for (Class<?> type : method.getParameterTypes()) {
            text.append(text.charAt(text.length() - 1) == '(' ? "" : ",").append(type.getName());
        }
        return text.append(")").toString();
    }

    private static void face() {
        holds(Modifier.isPublic(SongsAgain.class.getModifiers()), "the class is public");
        holds(Modifier.isFinal(SongsAgain.class.getModifiers()), "the class is final");
        Set<String> methods = new TreeSet<>();
        Set<String> names = new TreeSet<>();
        for (Method method : SongsAgain.class.getDeclaredMethods()) {
            if (!Modifier.isPrivate(method.getModifiers()) && !method.isSynthetic()) {
                methods.add(told(method));
                names.add(method.getName());
            }
        }
        holds(methods.equals(FACE), "the face's methods are just these: " + methods);
        Set<String> constants = new TreeSet<>();
        for (Field field : SongsAgain.class.getDeclaredFields()) {
            if (!Modifier.isPrivate(field.getModifiers())) {
                constants.add(field.getName());
                holds(field.toString().startsWith("public static final int"), field + " is a constant");
            }
        }
        holds(constants.equals(CONSTANTS), "the face's constants are just these: " + constants);
        Constructor<?>[] constructors = SongsAgain.class.getDeclaredConstructors();
        holds(constructors.length == 1 && constructors[0].toString().equals("public SongsAgain()"), "one constructor");
        for (Class<?> one : classes()) {
            for (Method method : one.getDeclaredMethods()) {
                boolean ofFace = one == SongsAgain.class && Modifier.isPublic(method.getModifiers());
                holds(ofFace || !names.contains(method.getName()), method + " bears no name of the face");
            }
        }
    }

    private static void members() {
        holds(classes().size() <= 12, "at most 12 classes");
        for (Class<?> one : classes()) {
            int fields = 0;
            holds(one == SongsAgain.class || Modifier.isStatic(one.getModifiers()), one + " is static");
            holds(one == SongsAgain.class || !Modifier.isPublic(one.getModifiers()), one + " is not public");
            for (Field field : one.getDeclaredFields()) {
                boolean isStatic = Modifier.isStatic(field.getModifiers());
                fields += isStatic ? 0 : 1;
                holds(!isStatic || Modifier.isFinal(field.getModifiers()), field + " is final");
            }
            holds(fields <= 20, one + " has at most 20 fields");
            for (Method method : one.getDeclaredMethods()) {
                holds(method.getParameterCount() <= 7, method + " takes at most 7 parameters");
            }
        }
    }

    private static String withoutComments(String text) {
        return Pattern.compile("/\\*.*?\\*/|//[^\\n]*", Pattern.DOTALL).matcher(text).replaceAll(" ");
    }

    private static void words(String code) {
        for (String word : FORBIDDEN) {
            Matcher matcher = Pattern.compile(word).matcher(code);
            holds(!matcher.find(), "no " + word + " in the code");
        }
    }

    /** A method's first line is told by its brace and its depth, its last by a brace as deep. */
    private static void lengths(String text) {
        String[] lines = text.split("\n");
        Pattern first = Pattern.compile("( {4}| {8})(public|private|static|int|long|boolean|void|[A-Z]\\w*)\\b.*\\) \\{");
        for (int from = 0; from < lines.length; from++) {
            holds(lines[from].length() <= 120, "line " + (from + 1) + " has at most 120 letters");
            Matcher matcher = first.matcher(lines[from]);
            int to = from;
            while (matcher.matches() && to < lines.length && !lines[to].equals(matcher.group(1) + "}")) {
                to++;
            }
            holds(to - from < 60, "the method at line " + (from + 1) + " is short");
        }
    }
}
