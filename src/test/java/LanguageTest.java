import java.io.IOException;
import java.lang.reflect.Constructor;
import java.lang.reflect.Field;
import java.lang.reflect.Member;
import java.lang.reflect.Method;
import java.lang.reflect.Modifier;
import java.nio.file.Files;
import java.nio.file.Path;
import java.util.HashSet;
import java.util.Set;
import java.util.regex.Pattern;

/** The rules of LANGUAGE.md that a look at the source and at the class can tell. */
public final class LanguageTest {
    private static final Due due = new Due();

    public static void main(String[] args) throws IOException {
        words();
        face();
        due.end();
    }

    private static void words() throws IOException {
        String source = Files.readString(Path.of("src/main/java/LilyQuarrels.java"));
        for (int i = 0; i < source.length(); i++) {
            due.yes("plain signs", source.charAt(i) < 128);
        }
        String code = source.replaceAll("(?s)/\\*.*?\\*/", "").replaceAll("//[^\n]*", "");
        String[] banned = {"\\bthrow\\b", "\\btry\\b", "\\bcatch\\b", "\\bsynchronized\\b", "\\bassert\\b", "->", "::",
            "\\bpackage\\b", "\\bnew\\s+\\w+\\s*\\([^)]*\\)\\s*\\{", "\\bstatic\\s*\\{", "\\bvar\\b", "Exact\\b",
            "\\bprotected\\b", "MIN_VALUE", "MAX_VALUE", "\\bdouble\\b", "\\bfloat\\b"};
        for (String word : banned) {
            due.yes("no " + word, !Pattern.compile(word).matcher(code).find());
        }
        due.yes("one import", code.split("\\bimport\\b").length == 2 && code.contains("import java.util.Arrays;"));
    }

    private static void face() {
        Class<?> type = LilyQuarrels.class;
        due.yes("public and final", Modifier.isPublic(type.getModifiers()) && Modifier.isFinal(type.getModifiers()));
        Set<String> open = new HashSet<>();
        for (Method m : type.getDeclaredMethods()) {
            due.yes("public or private: " + m, isOpenOrHidden(m));
            if (Modifier.isPublic(m.getModifiers())) {
                due.yes("no two of " + m, open.add(m.getName()));
            }
        }
        due.same("public methods", open.size(), 37);
        for (Constructor<?> c : type.getDeclaredConstructors()) {
            due.yes("public or private: " + c, isOpenOrHidden(c));
        }
        for (Field f : type.getDeclaredFields()) {
            boolean constant = Set.of("NONE", "BAD", "NOT", "FULL").contains(f.getName());
            due.yes("constants alone are public: " + f, Modifier.isPublic(f.getModifiers()) == constant
                    && isOpenOrHidden(f));
            due.yes("static is final: " + f, !Modifier.isStatic(f.getModifiers()) || Modifier.isFinal(f.getModifiers()));
        }
        for (Method m : type.getDeclaredMethods()) {
            due.yes("name of its own: " + m, Modifier.isPublic(m.getModifiers()) || !open.contains(m.getName()));
            due.yes("seven at most: " + m, m.getParameterCount() <= 7);
        }
        for (Class<?> inside : type.getDeclaredClasses()) {
            due.yes("static: " + inside, Modifier.isStatic(inside.getModifiers()));
            for (Method m : inside.getDeclaredMethods()) {
                due.yes("name of its own: " + m, !open.contains(m.getName()));
            }
        }
    }

    private static boolean isOpenOrHidden(Member m) {
        return Modifier.isPublic(m.getModifiers()) || Modifier.isPrivate(m.getModifiers());
    }
}
