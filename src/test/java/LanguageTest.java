import java.lang.reflect.Constructor;
import java.lang.reflect.Field;
import java.lang.reflect.Method;
import java.lang.reflect.Modifier;
import java.nio.file.Files;
import java.nio.file.Path;
import java.util.ArrayList;
import java.util.List;
import java.util.TreeSet;
import java.util.regex.Matcher;
import java.util.regex.Pattern;

/** The rules of LANGUAGE.md that can be told from the text of the class and from its members. */
public final class LanguageTest {
    private static final String FACE = "[count(int), end(int), feed(int,int,int,int,int), input(int,int,int), output(int),"
            + " process(int,int,int), program(), run(int), sizes(int,int), start(), types(int,int,int)]";
    private static final String NAMES = " feed end program sizes input start run output count process types ";

    public static void main(String[] args) throws Exception {
        Answers answers = new Answers();
        face(answers);
        for (Class<?> inside : SessionHouse.class.getDeclaredClasses()) {
            classInside(answers, inside);
        }
        answers.due("at most twelve classes", SessionHouse.class.getDeclaredClasses().length <= 11 ? 1 : 0, 1);
        String source = Files.readString(Path.of("src/main/java/SessionHouse.java"));
        words(answers, source);
        methods(answers, source);
        answers.finish("LanguageTest");
    }

    private static void face(Answers answers) {
        TreeSet<String> found = new TreeSet<>();
        for (Method method : SessionHouse.class.getDeclaredMethods()) {
            if (!Modifier.isPrivate(method.getModifiers())) {
                StringBuilder types = new StringBuilder();
                for (Class<?> type : method.getParameterTypes()) {
                    types.append(types.length() > 0 ? "," : "").append(type.getName());
                }
                found.add(method.getName() + "(" + types + ")");
            } else {
                answers.due("private " + method.getName(), NAMES.indexOf(" " + method.getName() + " "), -1);
            }
        }
        answers.due("the face is " + found, found.toString().equals(FACE) ? 1 : 0, 1);
        Constructor<?>[] constructors = SessionHouse.class.getDeclaredConstructors();
        answers.due("constructors", constructors.length, 1);
        answers.due("public constructor", Modifier.isPublic(constructors[0].getModifiers()) ? 1 : 0, 1);
        answers.due("final class", Modifier.isFinal(SessionHouse.class.getModifiers()) ? 1 : 0, 1);
        fields(answers, SessionHouse.class, true);
    }

    private static void fields(Answers answers, Class<?> owner, boolean mustBePrivate) {
        int own = 0;
        for (Field field : owner.getDeclaredFields()) {
            int modifiers = field.getModifiers();
            own += Modifier.isStatic(modifiers) ? 0 : 1;
            if (mustBePrivate) {
                answers.due("private field " + field.getName(), Modifier.isPrivate(modifiers) ? 1 : 0, 1);
            }
            if (Modifier.isStatic(modifiers)) {
                answers.due("final field " + field.getName(), Modifier.isFinal(modifiers) ? 1 : 0, 1);
            }
        }
        answers.due("at most twenty fields in " + owner.getName(), own <= 20 ? 1 : 0, 1);
    }

    private static void classInside(Answers answers, Class<?> inside) {
        answers.due("static " + inside.getName(), Modifier.isStatic(inside.getModifiers()) ? 1 : 0, 1);
        answers.due("no class inside " + inside.getName(), inside.getDeclaredClasses().length, 0);
        fields(answers, inside, false);
        for (Method method : inside.getDeclaredMethods()) {
            answers.due("method " + method, NAMES.indexOf(" " + method.getName() + " "), -1);
            answers.due("parameters of " + method, method.getParameterCount() <= 7 ? 1 : 0, 1);
        }
    }

    private static void words(Answers answers, String source) {
        String code = source.replaceAll("(?s)/\\*.*?\\*/", "").replaceAll("//[^\n]*", "")
                .replaceAll("\"[^\"\n]*\"", "TEXT").replaceAll("'[^'\n]+'", "SIGN");
        String[] never = {"\\bthrow", "\\btry\\b", "\\bcatch\\b", "\\bsynchronized\\b", "\\bassert\\b", "->", "::",
            "\\bimport\\b", "\\bpackage\\b", "\\bprotected\\b", "\\bvar\\b", "\\bLong\\.", "TEXT\\s*\\+", "\\+\\s*TEXT",
            "Exact\\b", "\\bwhile \\(true\\)", "for \\(;;", "\\bThread\\b", "\\bRandom\\b", "System\\.(?!arraycopy)",
            "\\bequals\\b", "\\bhashCode\\b", "\\btoString\\b", "\\bnative\\b", "\\bvolatile\\b", "static \\{"};
        for (String word : never) {
            answers.due("matches of " + word, Pattern.compile(word).matcher(code).find() ? 1 : 0, 0);
        }
        for (int i = 0; i < source.length(); i++) {
            if (source.charAt(i) > 126) {
                answers.due("character at " + i, source.charAt(i), ' ');
            }
        }
    }

    /** No method is longer than sixty lines. */
    private static void methods(Answers answers, String source) {
        List<Integer> starts = new ArrayList<>();
        String[] lines = source.split("\n");
        Pattern head = Pattern.compile("^(    |        )(\\w[\\w ]*)\\b\\w+\\([^;]*\\) \\{$");
        for (int i = 0; i < lines.length; i++) {
            Matcher matcher = head.matcher(lines[i]);
            if (matcher.matches()) {
                starts.add(i);
                String close = matcher.group(1) + "}";
                int end = i;
                while (end < lines.length && !lines[end].equals(close)) {
                    end++;
                }
                answers.due("lines of " + lines[i].trim(), end - i <= 60 ? 1 : 0, 1);
            }
        }
        answers.due("methods were found", starts.size() > 100 ? 1 : 0, 1);
    }
}
