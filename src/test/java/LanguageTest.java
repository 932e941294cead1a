import java.io.IOException;
import java.lang.reflect.Field;
import java.lang.reflect.Modifier;
import java.nio.file.Files;
import java.nio.file.Path;
import java.util.ArrayList;
import java.util.List;
import java.util.regex.Matcher;
import java.util.regex.Pattern;

/** Rules of LANGUAGE.md that the source's words show: what it never says, how long methods and lists are. */
public final class LanguageTest {
    private static final String[] NEVER = {"->", "::", "\\bsynchronized\\b", "\\bassert\\b", "\\bfinally\\b",
        "\\bcatch\\b", "\\btry\\b", "\\bwhile\\s*\\(true", "\\bpackage\\b", "Exact\\(", "\\bSystem\\.(?!arraycopy)",
        "\\bprotected\\b", "\\bextends\\b", "\"\\s*\\+", "\\+\\s*\"", "\\bRandom\\b", "\\bThread\\b", "\\bdouble\\b",
        "\\bfloat\\b", "\\.equals\\(", "\\.hashCode\\(", "\\.toString\\(", "static\\s*\\{", "@SuppressWarnings"};
    private static final String[] IMPORTS = {"java.util.Arrays", "java.util.NoSuchElementException"};
    private static final int LINES_AT_MOST = 60;
    private static final int PARAMETERS_AT_MOST = 7;
    private static final int CLASSES_AT_MOST = 12;
    private static final int FIELDS_AT_MOST = 20;
    private static final List<Class<?>> CONSTANTS = List.of(int.class, long.class, boolean.class, char.class,
        String.class, int[].class, long[].class, char[].class, byte[].class);
    private static final List<Class<?>> HELD = List.of(int.class, long.class, boolean.class, char.class,
        int[].class, long[].class, char[].class);
    private static int wrong;

    public static void main(String[] args) throws IOException {
        String source = Files.readString(Path.of("src/main/java/RiverThinksAgain.java"));
        check(source.chars().allMatch(c -> c < 128), "all signs are 1 to 127");
        String code = source.replaceAll("(?s)/\\*.*?\\*/", "").replaceAll("//[^\\n]*", "");
        for (String word : NEVER) {
            check(!Pattern.compile(word).matcher(code).find(), "it never says " + word);
        }
        Matcher imports = Pattern.compile("import\\s+([^;]+);").matcher(code);
        while (imports.find()) {
            check(List.of(IMPORTS).contains(imports.group(1)), "it may import " + imports.group(1));
        }
        Matcher thrown = Pattern.compile("throw\\s+([^;]+);").matcher(code);
        while (thrown.find()) {
            check(thrown.group(1).equals("new NoSuchElementException()"), "it may throw " + thrown.group(1));
        }
        check(code.split("\\bclass\\b").length - 1 <= CLASSES_AT_MOST, "at most twelve classes");
        checkMethods(code);
        checkFields(RiverThinksAgain.class);
        for (Class<?> inside : RiverThinksAgain.class.getDeclaredClasses()) {
            checkFields(inside);
        }
        System.exit(wrong == 0 ? 0 : 1);
    }

    private static void checkMethods(String code) {
        String[] lines = code.split("\n");
        Pattern head = Pattern.compile("^\\s+(?:(?:public|private|static|final)\\s+)*[\\w\\[\\]]+\\s+(\\w+)"
            + "\\(([^)]*)\\)[\\w\\s]*\\{$");
        for (int i = 0; i < lines.length; i++) {
            Matcher method = head.matcher(lines[i]);
            if (!method.matches() || lines[i].matches("\\s*(else|return|new|switch|if|for)\\b.*")) {
                continue;
            }
            String indent = lines[i].substring(0, lines[i].length() - lines[i].stripLeading().length());
            int end = i + 1;
            while (end < lines.length && !lines[end].equals(indent + "}")) {
                end++;
            }
            List<String> parameters = new ArrayList<>(List.of(method.group(2).split(",")));
            check(end - i + 1 <= LINES_AT_MOST, method.group(1) + " has at most sixty lines");
            check(parameters.size() <= PARAMETERS_AT_MOST, method.group(1) + " has at most seven parameters");
            String body = String.join("\n", List.of(lines).subList(i + 1, end));
            boolean callsItself = Pattern.compile("(?<![\\w.])" + method.group(1) + "\\(").matcher(body).find();
            check(!callsItself || lines[i].contains("private static "), method.group(1)
                + ", which calls itself, is private and static");
        }
    }

    private static void checkFields(Class<?> owner) {
        int held = 0;
        for (Field field : owner.getDeclaredFields()) {
            Class<?> type = field.getType();
            if (Modifier.isStatic(field.getModifiers())) {
                check(Modifier.isFinal(field.getModifiers()) && CONSTANTS.contains(type), field + " is a constant");
                continue;
            }
            held++;
            Class<?> one = type.isArray() ? type.getComponentType() : type;
            boolean isOwn = one.getName().startsWith("RiverThinksAgain$");
            check(isOwn || HELD.contains(type), field + " is of a type that may be");
        }
        check(held <= FIELDS_AT_MOST, owner + " has at most twenty fields beside its constants");
    }

    private static void check(boolean holds, String what) {
        if (!holds) {
            wrong++;
            System.out.println("wrong: " + what);
        }
    }
}
