import java.io.IOException;
import java.lang.reflect.Constructor;
import java.lang.reflect.Field;
import java.lang.reflect.Method;
import java.lang.reflect.Modifier;
import java.nio.file.Files;
import java.nio.file.Path;
import java.util.HashSet;
import java.util.Set;
import java.util.regex.Pattern;

/** The rules of ../shared/LANGUAGE.md that can be seen by a plain look at the source and at the class. */
public final class LanguageTest {
    private static final Path SOURCE = Path.of("src/main/java/FreeWheelDown.java");
    private static final String[] FORBIDDEN = {"\\bthrow\\b", "\\bthrows\\b", "\\btry\\b", "\\bcatch\\b",
        "\\bsynchronized\\b", "\\bassert\\b", "->", "::", "\\bimport\\b", "\\bpackage\\b", "\\bfloat\\b", "\\bdouble\\b",
        "\\bObject\\b", "\\bSystem\\.(?!arraycopy)", "\\bwhile\\b", "Exact\\b", "\\bprotected\\b", "\"[^\"]*\"\\s*\\+"};
    private static final int LONGEST_METHOD = 60;

    private LanguageTest() {
    }

    public static void main(String[] args) throws IOException {
        String source = Files.readString(SOURCE);
        String code = source.replaceAll("(?s)/\\*.*?\\*/", "").replaceAll("//.*", "");
        for (String words : FORBIDDEN) {
            Check.holds("no " + words, !Pattern.compile(words).matcher(code).find());
        }
        Check.holds("characters 0 to 127", source.chars().allMatch(c -> c < 128));
        face();
        for (Class<?> inside : FreeWheelDown.class.getDeclaredClasses()) {
            Check.holds(inside + " is static", Modifier.isStatic(inside.getModifiers()));
            Check.holds(inside + " is private", Modifier.isPrivate(inside.getModifiers()));
            fields(inside);
        }
        Check.holds("at most twelve classes", FreeWheelDown.class.getDeclaredClasses().length < 12);
        fields(FreeWheelDown.class);
        methodLengths(source.split("\n"));
        Check.end();
    }

    private static void face() {
        Set<String> open = new HashSet<>();
        Set<String> hidden = new HashSet<>();
        for (Method method : FreeWheelDown.class.getDeclaredMethods()) {
            boolean isPublic = Modifier.isPublic(method.getModifiers());
            (isPublic ? open : hidden).add(method.getName());
            Check.holds(method + " is public or private", isPublic || Modifier.isPrivate(method.getModifiers()));
            Check.holds(method + " has seven parameters at most", method.getParameterCount() <= 7);
        }
        for (Class<?> inside : FreeWheelDown.class.getDeclaredClasses()) {
            for (Method method : inside.getDeclaredMethods()) {
                hidden.add(method.getName());
            }
        }
        hidden.retainAll(open);
        Check.holds("no hidden method bears the name of a public one: " + hidden, hidden.isEmpty());
        for (Constructor<?> constructor : FreeWheelDown.class.getDeclaredConstructors()) {
            Check.due("parameters of the constructor", constructor.getParameterCount(), 0);
        }
    }

    private static void fields(Class<?> type) {
        int own = 0;
        for (Field field : type.getDeclaredFields()) {
            boolean isStatic = Modifier.isStatic(field.getModifiers());
            own += isStatic ? 0 : 1;
            Check.holds(field + " is final if static", !isStatic || Modifier.isFinal(field.getModifiers()));
            boolean isHidden = type != FreeWheelDown.class || Modifier.isPrivate(field.getModifiers());
            Check.holds(field + " is private", isHidden);
        }
        Check.holds("at most twenty fields in " + type, own <= 20);
    }

    /** A method ends where its first line's indentation comes again with a closing brace. */
    private static void methodLengths(String[] lines) {
        Pattern head = Pattern.compile("^( {4}| {8})(?!return|if|for|switch|else)[a-z].*\\).* ?\\{$");
        for (int i = 0; i < lines.length; i++) {
            if (!head.matcher(lines[i]).find() || lines[i].contains("class ")) {
                continue;
            }
            String indent = lines[i].substring(0, lines[i].length() - lines[i].stripLeading().length());
            int end = i;
            while (end < lines.length && !lines[end].equals(indent + "}")) {
                end++;
            }
            Check.holds("method of line " + (i + 1) + " is short", end - i <= LONGEST_METHOD);
        }
    }
}
