import java.io.IOException;
import java.lang.reflect.Constructor;
import java.lang.reflect.Field;
import java.lang.reflect.Method;
import java.lang.reflect.Modifier;
import java.nio.file.Files;
import java.nio.file.Path;
import java.util.List;
import java.util.TreeSet;
import java.util.regex.Matcher;
import java.util.regex.Pattern;

/** The public face to the letter, and those rules of LANGUAGE.md that a text can be asked for. */
public final class LanguageTest {
    private static final List<String> FACE = List.of(
        "public ItemStates()",
        "public boolean ItemStates.floats(int,boolean)",
        "public boolean ItemStates.right(int,int,boolean)",
        "public int ItemStates.act(int,int,int,long)",
        "public int ItemStates.check(long,int)",
        "public int ItemStates.copy(int,long,int,int)",
        "public int ItemStates.count(int,int)",
        "public int ItemStates.fee(int,int)",
        "public int ItemStates.history(int,int,int)",
        "public int ItemStates.home(int)",
        "public int ItemStates.owed(int)",
        "public int ItemStates.place(int)",
        "public int ItemStates.state(int,long)",
        "public int ItemStates.weed(int,int)",
        "public static final int ItemStates.NONE",
        "public static final int ItemStates.RIGHT",
        "public static final int ItemStates.STATE");

    private static final String FORBIDDEN = "\\b(throw|throws|try|catch|finally|synchronized|assert|import|package"
        + "|native|volatile|transient|hashCode|toString|System\\.(?!arraycopy)|\\w+Exact)\\b|->|::|@";

    public static void main(String[] args) throws IOException {
        Due due = new Due("language");
        face(due);
        String code = code(Files.readString(Path.of("src/main/java/ItemStates.java")));
        Matcher found = Pattern.compile(FORBIDDEN).matcher(code);
        due.is("forbidden words" + (found.find() ? " (" + found.group() + ")" : ""), found.reset().find(), false);
        due.end();
    }

    private static void face(Due due) {
        TreeSet<String> seen = new TreeSet<>();
        TreeSet<String> names = new TreeSet<>();
        Class<?> face = ItemStates.class;
        for (Constructor<?> c : face.getDeclaredConstructors()) {
            note(seen, c.getModifiers(), c.toString());
        }
        for (Method m : face.getDeclaredMethods()) {
            note(seen, m.getModifiers(), m.toString());
            due.is("one method alone is named " + m.getName(), names.add(m.getName()), true);
        }
        for (Field f : face.getDeclaredFields()) {
            note(seen, f.getModifiers(), f.toString());
            if (Modifier.isStatic(f.getModifiers())) {
                due.is("static and final: " + f.getName(), Modifier.isFinal(f.getModifiers()), true);
            }
        }
        due.is("the face " + seen, seen.equals(new TreeSet<>(FACE)), true);
        due.is("public and final", face.getModifiers(), Modifier.PUBLIC | Modifier.FINAL);
        for (Class<?> inside : face.getDeclaredClasses()) {
            due.is("static: " + inside, Modifier.isStatic(inside.getModifiers()), true);
            due.is("not public: " + inside, Modifier.isPublic(inside.getModifiers()), false);
            due.is("twenty fields: " + inside, inside.getDeclaredFields().length <= 20, true);
        }
    }

    private static void note(TreeSet<String> seen, int modifiers, String text) {
        if (!Modifier.isPrivate(modifiers)) {
            seen.add(text);
        }
    }

    private static String code(String source) {
        return source.replaceAll("(?s)/\\*.*?\\*/", "").replaceAll("//[^\n]*", "");
    }
}
