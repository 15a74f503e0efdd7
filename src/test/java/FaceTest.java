import java.lang.reflect.Constructor;
import java.lang.reflect.Field;
import java.lang.reflect.Method;
import java.lang.reflect.Modifier;
import java.nio.file.Files;
import java.nio.file.Path;
import java.util.Set;
import java.util.TreeSet;
import java.util.regex.Matcher;
import java.util.regex.Pattern;

/** The face is the document's and no more, and the source keeps to what LANGUAGE.md leaves. */
public final class FaceTest {
    private static final Check CHECK = new Check("FaceTest");
    private static final Path SOURCE = Path.of("src/main/java/EachUndoes.java");

    private static final String[] FACE = {
        "int type 1", "int wipe 0", "int fault 0", "int deed 2", "int undoes 2", "int read 1", "int undo 0",
        "int worth 3", "int judged 0", "int holds 1", "int state 2", "int root 1", "int by 1", "int without 2",
        "int fewest 4", "int safe 1", "int last 3", "int seen 2", "int forget 0", "int often 0", "int drawn 3",
        "int sheet 3", "int lose 1", "int lay 4", "int get 3", "int copy 5", "int write 1", "int count 1",
        "long digest 0",
    };
    private static final String[] RULED_OUT = {
        "\\b(throw|throws|try|catch|finally|synchronized|assert|import|package|var|volatile|native|transient)\\b",
        "->", "::", "\\bnew\\s+\\w+\\s*\\([^)]*\\)\\s*\\{", "\\w+Exact\\b", "\\bSystem\\.(?!arraycopy)",
        "\\bMath\\.random",
        "\"", "\\bstatic\\s*\\{", "\\bprotected\\b", "\\b(hashCode|equals|toString|getClass)\\b",
    };
    private static final int LONGEST_METHOD = 60;

    private static void theFace() {
        Class<?> face = EachUndoes.class;
        CHECK.isTrue("public and final", face.getModifiers() == (Modifier.PUBLIC | Modifier.FINAL));
        Set<String> due = new TreeSet<>(Set.of(FACE));
        Set<String> open = new TreeSet<>();
        Set<String> hidden = new TreeSet<>();
        for (Method method : face.getDeclaredMethods()) {
            if (Modifier.isPrivate(method.getModifiers()) || method.isSynthetic()) {
                hidden.add(method.getName());
                continue;
            }
            CHECK.isTrue(method + " is public alone", method.getModifiers() == Modifier.PUBLIC);
            open.add(method.getReturnType() + " " + method.getName() + " " + method.getParameterCount());
            for (Class<?> type : method.getParameterTypes()) {
                CHECK.isTrue(method + " takes ints", type == int.class);
            }
        }
        CHECK.isTrue("the methods " + open + " are " + due, open.equals(due));
        for (Class<?> inside : face.getDeclaredClasses()) {
            int modifiers = inside.getModifiers();
            CHECK.isTrue(inside + " is static and not public",
                Modifier.isStatic(modifiers) && !Modifier.isPublic(modifiers) && !Modifier.isProtected(modifiers));
            for (Method method : inside.getDeclaredMethods()) {
                hidden.add(method.getName());
            }
        }
        for (String method : FACE) {
            CHECK.isTrue(method + " names no private one", !hidden.contains(method.split(" ")[1]));
        }
        Constructor<?>[] constructors = face.getDeclaredConstructors();
        CHECK.due("constructors", constructors.length, 1);
        CHECK.isTrue("a public one without parameters",
            constructors[0].getModifiers() == Modifier.PUBLIC && constructors[0].getParameterCount() == 0);
    }

    private static void theConstants() {
        Set<String> open = new TreeSet<>();
        for (Field field : EachUndoes.class.getDeclaredFields()) {
            if (!Modifier.isPrivate(field.getModifiers())) {
                open.add(field.getType() + " " + field.getName());
                CHECK.isTrue(field + " is a constant",
                    field.getModifiers() == (Modifier.PUBLIC | Modifier.STATIC | Modifier.FINAL));
            }
        }
        CHECK.isTrue("the constants " + open, open.equals(Set.of("int NONE", "int BAD", "int NOT", "int FULL")));
    }

    private static void theLanguage() throws Exception {
        String source = Files.readString(SOURCE).replaceAll("(?s)/\\*.*?\\*/|//[^\n]*", "");
        for (String pattern : RULED_OUT) {
            Matcher found = Pattern.compile(pattern).matcher(source);
            CHECK.isTrue("nothing like " + pattern, !found.find());
        }
        // Fields and the constructor make what a call needs; no call makes an object.
        Matcher made = Pattern.compile("\n([^\n]*\\bnew\\b[^\n]*)").matcher(source);
        while (made.find()) {
            CHECK.isTrue("made once: " + made.group(1).trim(),
                made.group(1).matches(" *private final .* = new .*;| *sheets\\[s\\] = new Sheet\\(\\);"));
        }
        int start = -1;
        String[] lines = source.split("\n");
        for (int i = 0; i < lines.length; i++) {
            if (lines[i].matches(" {4}( {4})?(public|private) [^=;]*\\(.*\\{")) {
                start = i;
            } else if (start >= 0 && lines[i].matches(" {4}( {4})?\\}")) {
                CHECK.isTrue("short: " + lines[start].trim(), i - start < LONGEST_METHOD);
                start = -1;
            }
        }
    }

    public static void main(String[] args) throws Exception {
        theFace();
        theConstants();
        theLanguage();
        CHECK.end();
    }
}
