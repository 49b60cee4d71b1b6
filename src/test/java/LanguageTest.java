import java.io.IOException;
import java.lang.reflect.Constructor;
import java.lang.reflect.Field;
import java.lang.reflect.Method;
import java.lang.reflect.Modifier;
import java.nio.charset.StandardCharsets;
import java.nio.file.Files;
import java.nio.file.Path;
import java.util.ArrayList;
import java.util.HashSet;
import java.util.List;
import java.util.Set;
import java.util.TreeSet;
import java.util.regex.Matcher;
import java.util.regex.Pattern;

/** The face of the class, and those rules of LANGUAGE.md that can be looked up in it or in its text. */
public final class LanguageTest {
    private static final String[] FACE = {
        "int sign(int)", "boolean end(int)", "int town()", "int law()", "int jar(int,int) NoSuchElementException",
        "int hole(int,int)", "boolean below(int,int)", "int sheet(int,int,int,int)", "int spring(int,int,int)",
        "int pour(int,int,int)", "boolean wax(int,int)", "int bells(int)", "int undo()", "int judge(int,int,int,int)",
        "int order()", "int owes(int,int)", "int rest()", "int dry(int)", "int later(int,int)", "int flood(int,int)",
        "int above(int)", "int least(int,int,int,int)", "int stops(int,int,int)", "int saves(int,int)",
        "int place(int,int)", "int payoff()", "int pays(int,int)", "int soonest(int,int)", "int latest(int,int)",
        "int settle()", "int share(int,int)", "int cup(int,int)", "int spread(int)", "int comes(int,int)",
        "int marks(int)", "int tax(int)", "int drop(int,int)", "int seen(int,int,int)", "int forget()", "int holes(int)",
        "int explains()", "int looks(int)", "int secret()", "boolean keep(int)", "boolean again(int)", "int count(int)",
        "int row(int) NoSuchElementException"};
    private static final Path SOURCE = Path.of("src/main/java/JarsThatLeak.java");
    private static final int MOST_LINES = 60;

    public static void main(String[] args) throws IOException {
        face();
        classesInside();
        String source = Files.readString(SOURCE, StandardCharsets.ISO_8859_1);
        words(withoutCommentsAndTexts(source));
        madeThings(withoutCommentsAndTexts(source));
        methodLengths(source);
        imports(source);
        Check.finish();
    }

    private static String told(Method method) {
        StringBuilder text = new StringBuilder();
        text.append(method.getReturnType().getSimpleName()).append(' ').append(method.getName()).append('(');
        for (int i = 0; i < method.getParameterCount(); i++) {
            text.append(i > 0 ? "," : "").append(method.getParameterTypes()[i].getSimpleName());
        }
        text.append(')');
        for (Class<?> exception : method.getExceptionTypes()) {
            text.append(' ').append(exception.getSimpleName());
        }
        return text.toString();
    }

    private static void face() {
        Class<?> face = JarsThatLeak.class;
        Check.due("public final", face.getModifiers() & (Modifier.PUBLIC | Modifier.FINAL),
            Modifier.PUBLIC | Modifier.FINAL);
        Set<String> got = new TreeSet<>();
        for (Method method : face.getDeclaredMethods()) {
            if (!Modifier.isPrivate(method.getModifiers())) {
                got.add(told(method) + (Modifier.isPublic(method.getModifiers()) ? "" : " not public"));
            }
        }
        Check.dueText("the methods", got.toString(), new TreeSet<>(List.of(FACE)).toString());
        List<String> fields = new ArrayList<>();
        for (Field field : face.getDeclaredFields()) {
            if (!Modifier.isPrivate(field.getModifiers())) {
                fields.add(Modifier.toString(field.getModifiers()) + " " + field.getName());
            }
        }
        Check.dueText("the constants", fields.toString(), "[public static final NONE]");
        Constructor<?>[] constructors = face.getDeclaredConstructors();
        Check.due("constructors", constructors.length, 1);
        Check.due("its parameters", constructors[0].getParameterCount(), 0);
        Check.due("its being public", Modifier.isPublic(constructors[0].getModifiers()), true);
    }

    private static void classesInside() {
        Set<String> names = new HashSet<>();
        for (Method method : JarsThatLeak.class.getMethods()) {
            names.add(method.getName());
        }
        List<Class<?>> all = new ArrayList<>(List.of(JarsThatLeak.class.getDeclaredClasses()));
        Check.due("at most some twelve classes", all.size() <= 12, true);
        for (Class<?> inside : all) {
            Check.due(inside + " is static", Modifier.isStatic(inside.getModifiers()), true);
            Check.due(inside + " is not public",
                Modifier.isPublic(inside.getModifiers()) || Modifier.isProtected(inside.getModifiers()), false);
        }
        all.add(JarsThatLeak.class);
        for (Class<?> one : all) {
            int fields = 0;
            for (Field field : one.getDeclaredFields()) {
                boolean isStatic = Modifier.isStatic(field.getModifiers());
                Check.due(field + " is final", isStatic && !Modifier.isFinal(field.getModifiers()), false);
                fields += isStatic ? 0 : 1;
            }
            Check.due(one + " has at most some twenty fields", fields <= 20, true);
            for (Method method : one.getDeclaredMethods()) {
                Check.due(method + " has at most seven parameters", method.getParameterCount() <= 7, true);
                boolean faces = one == JarsThatLeak.class && Modifier.isPublic(method.getModifiers());
                Check.due(method + " bears a name of the face", !faces && names.contains(method.getName()), false);
            }
        }
    }

    private static String withoutCommentsAndTexts(String source) {
        String noComments = source.replaceAll("(?s)/\\*.*?\\*/", " ").replaceAll("//[^\n]*", " ");
        return noComments.replaceAll("\"[^\"\n]*\"", "TEXT").replaceAll("'\\\\?[^'\n]'", "SIGN");
    }

    private static void words(String code) {
        String[] forbidden = {"->", "::", "\\bfinally\\b", "\\bsynchronized\\b", "\\bassert\\b", "\\btry\\b", "\\bcatch\\b",
            "Exact\\b", "\\bpackage\\b", "\\bvolatile\\b", "\\bnative\\b", "\\bThread\\b", "\\bRandom\\b",
            "\\bSystem\\.(?!arraycopy\\b)", "\\bnanoTime\\b", "\\bvar\\b", "\\.\\.\\.", "\\bequals\\b", "\\bhashCode\\b",
            "\\btoString\\b", "\\bObject\\b", "\\bfloat\\b", "\\bdouble\\b", "\\bstatic\\s*\\{", "@"};
        for (String word : forbidden) {
            Check.due("finds of " + word, Pattern.compile(word).matcher(code).find(), false);
        }
        Matcher thrown = Pattern.compile("\\bthrow\\b(?! new NoSuchElementException\\(TEXT\\);)").matcher(code);
        Check.due("throws of another form", thrown.find(), false);
    }

    /** Fields, what the two constructors put into their rows, and what is thrown: nothing else is made. */
    private static void madeThings(String code) {
        Pattern field = Pattern.compile("^( {4}| {8})(private )?final [\\w\\[\\]]+ \\w+ = new .*;$");
        List<String> others = new ArrayList<>();
        for (String line : code.split("\n")) {
            boolean made = Pattern.compile("\\bnew\\b").matcher(line).find();
            if (made && !field.matcher(line).find() && !line.contains("throw new ")) {
                others.add(line.trim());
            }
        }
        Check.dueText("made elsewhere", others.toString(), "[kept[i] = new State();, states[i] = new State();]");
    }

    private static void imports(String source) {
        Matcher matcher = Pattern.compile("(?m)^import .*$").matcher(source);
        List<String> found = new ArrayList<>();
        while (matcher.find()) {
            found.add(matcher.group());
        }
        Check.dueText("imports", found.toString(), "[import java.util.Arrays;, import java.util.NoSuchElementException;]");
    }

    /** Relies on how the file is laid out: a method ends where its own indentation closes it. */
    private static void methodLengths(String source) {
        String[] lines = source.split("\n");
        Pattern head = Pattern.compile("^( {4}| {8})(?! |class|if|for|while|switch|return)[\\w\\[\\] ]+\\([^;]*\\{$");
        int methods = 0;
        for (int i = 0; i < lines.length; i++) {
            Matcher matcher = head.matcher(lines[i]);
            if (!matcher.find() || lines[i].contains(" class ")) {
                continue;
            }
            int end = i;
            while (end < lines.length && !lines[end].equals(matcher.group(1) + "}")) {
                end++;
            }
            methods++;
            Check.due("the lines of " + lines[i].trim() + " are few", end - i + 1 <= MOST_LINES, true);
        }
        Check.due("methods were found", methods > 100, true);
    }
}
