import java.io.IOException;
import java.lang.reflect.Constructor;
import java.lang.reflect.Field;
import java.lang.reflect.Method;
import java.lang.reflect.Modifier;
import java.nio.file.Files;
import java.nio.file.Path;
import java.util.Set;
import java.util.TreeSet;
import java.util.regex.Matcher;
import java.util.regex.Pattern;

/** The face is the document's and no more, and the source keeps to what of LANGUAGE.md can be seen by words. */
public final class FaceTest {
    private static final String[] FACE = {"int feed(int,int,int,int,int)", "boolean end(int)", "int text()",
        "int fault(int)", "int now(int)", "int part(int)", "int at(int)", "int add(int,int)",
        "int sum(int) java.util.NoSuchElementException", "int sums()", "int found(int,int)", "int ways(int,int)",
        "int exactly(int,int)", "int run(int,int)", "int free(int)", "int atoms(int)", "int atom(int)",
        "int signed(int)", "int sign(int,int)", "int like(int)", "int frees(int)", "int longest()",
        "int longestAt(int)", "int enough()", "int come(int)", "int go(int)", "int times(int)", "int sort()",
        "int drawn(int,int)", "int undo()", "boolean image(int)", "boolean restore(int)"};
    private static final String[] RULED_OUT = {"\\bcatch\\b", "\\bfinally\\b", "\\bsynchronized\\b", "\\bassert\\b",
        "->", "::", "\\bstatic\\s*\\{", "\\bvar\\b", "\\bObject\\b", "\\bSystem\\b", "\\bInteger\\b", "Exact\\b",
        "@", "\\bdouble\\b", "\\bfloat\\b", "\" \\+", "\\+ \"", "\\bnative\\b", "\\bvolatile\\b", "\\?>"};

    private static final Tester T = new Tester();

    public static void main(String[] args) throws IOException {
        face();
        fields();
        source(Files.readString(Path.of("src/main/java/NoughtSums.java")));
        T.finish();
    }

    private static void face() {
        Set<String> due = new TreeSet<>(Set.of(FACE));
        Set<String> names = new TreeSet<>();
        for (Method m : NoughtSums.class.getDeclaredMethods()) {
            if (Modifier.isPrivate(m.getModifiers()) || m.isSynthetic()) {
                continue;
            }
            StringBuilder s = new StringBuilder();
            s.append(m.getReturnType()).append(' ').append(m.getName()).append('(');
            for (int i = 0; i < m.getParameterCount(); i++) {
                s.append(i == 0 ? "" : ",").append(m.getParameterTypes()[i]);
            }
            s.append(')');
            for (Class<?> e : m.getExceptionTypes()) {
                s.append(' ').append(e.getName());
            }
            names.add(m.getName());
            T.due("the face has " + s, true, due.remove(s.toString()));
            T.due(s + " is public alone", Modifier.PUBLIC, m.getModifiers());
        }
        T.due("missing of the face: " + due, 0, due.size());
        Constructor<?>[] made = NoughtSums.class.getDeclaredConstructors();
        T.due("constructors", 1, made.length);
        T.due("constructor's parameters", 0, made[0].getParameterCount());
        T.due("constructor's modifiers", Modifier.PUBLIC, made[0].getModifiers());
        T.due("class's modifiers", Modifier.PUBLIC | Modifier.FINAL, NoughtSums.class.getModifiers());
        noPrivateOneBearsAPublicName(NoughtSums.class, names);
        for (Class<?> inside : NoughtSums.class.getDeclaredClasses()) {
            noPrivateOneBearsAPublicName(inside, names);
            T.due(inside + " is static", true, Modifier.isStatic(inside.getModifiers()));
            T.due(inside + " is not public", false, Modifier.isPublic(inside.getModifiers()));
        }
        T.due("some twelve classes", true, NoughtSums.class.getDeclaredClasses().length < 12);
    }

    private static void noPrivateOneBearsAPublicName(Class<?> c, Set<String> names) {
        for (Method m : c.getDeclaredMethods()) {
            boolean ofTheFace = c == NoughtSums.class && Modifier.isPublic(m.getModifiers());
            T.due(c + "'s " + m.getName() + " bears a name of the face", false,
                !ofTheFace && names.contains(m.getName()));
            T.due(c + "'s " + m.getName() + " has at most seven parameters", true, m.getParameterCount() <= 7);
        }
        int own = 0;
        for (Field f : c.getDeclaredFields()) {
            own += Modifier.isStatic(f.getModifiers()) ? 0 : 1;
            T.due(c + "'s " + f.getName() + ", static, is final", true,
                !Modifier.isStatic(f.getModifiers()) || Modifier.isFinal(f.getModifiers()));
        }
        T.due(c + " has some twenty fields", true, own <= 20);
    }

    private static void fields() {
        int open = 0;
        for (Field f : NoughtSums.class.getDeclaredFields()) {
            open += Modifier.isPrivate(f.getModifiers()) ? 0 : 1;
        }
        T.due("one field that is not private: NONE", 1, open);
    }

    private static void source(String text) {
        String code = text.replaceAll("(?s)/\\*.*?\\*/", "").replaceAll("//[^\n]*", "");
        for (String word : RULED_OUT) {
            Matcher m = Pattern.compile(word).matcher(code);
            T.due("the source has " + word, false, m.find());
        }
        Matcher imports = Pattern.compile("import ([^;]*);").matcher(code);
        while (imports.find()) {
            T.due("import of " + imports.group(1), true, imports.group(1).equals("java.util.NoSuchElementException"));
        }
        Matcher thrown = Pattern.compile("throw new (\\w+)").matcher(code);
        int count = 0;
        while (thrown.find()) {
            count++;
            T.due("throw of " + thrown.group(1), true, thrown.group(1).equals("NoSuchElementException"));
        }
        T.due("one throw", 1, count);
        handedOut(code);
        Matcher constants = Pattern.compile("static final (\\w+)\\W").matcher(code);
        while (constants.find()) {
            T.due("static final " + constants.group(1), true,
                Set.of("int", "long", "boolean", "char", "String", "class").contains(constants.group(1)));
        }
        Matcher math = Pattern.compile("\\bMath\\.(\\w+)").matcher(code);
        while (math.find()) {
            T.due("Math." + math.group(1), true, Set.of("min", "max").contains(math.group(1)));
        }
    }

    /** Rule 12: a constructor hands out nothing of the object that it makes; here none is handed anything. */
    private static void handedOut(String code) {
        Matcher made = Pattern.compile("\\bnew (\\w+)\\(([^)]*)\\)").matcher(code);
        int count = 0;
        while (made.find()) {
            count++;
            boolean thrown = made.group(1).equals("NoSuchElementException");
            T.due(made.group() + " is handed nothing but a thrown one's text", true,
                thrown ? made.group(2).matches("\"[^\"]*\"") : made.group(2).isEmpty());
        }
        T.due("objects are made", true, count > 1);
    }
}
