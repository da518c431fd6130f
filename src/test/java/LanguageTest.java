import java.lang.reflect.Constructor;
import java.lang.reflect.Field;
import java.lang.reflect.Method;
import java.lang.reflect.Modifier;
import java.nio.file.Files;
import java.nio.file.Path;
import java.util.Set;
import java.util.TreeSet;
import java.util.regex.Matcher;
import java.util.regex.Pattern;

/** The public face of the document, and those rules of LANGUAGE.md that a look at the text or the class can tell. */
public final class LanguageTest {
    private static final Checks C = new Checks();
    private static final String[] FACE = {
        "int method(int)", "int argument(int,int)", "int op(int,int,int,int)", "int alter(int,int,int,int,int)",
        "int handler(int,int,int,int,int)", "int constant(long)", "int table(boolean,int,int)", "int entry(int,int,int)",
        "int count(int)", "int judge(int)", "int fault(int)", "int good(int)", "int shape(int,int,int)", "int give(long)",
        "int walk(int,int)", "long value()", "int told(int)", "int thing(int,int)", "long cell(int,int)",
    };
    private static final String[] RULED_OUT = {
        "throw", "throws", "try", "catch", "finally", "synchronized", "assert", "import", "package", "float", "double",
        "native", "volatile", "transient", "yield", "Object", "System\\.(?!arraycopy)", "Thread",
        "->", "::", "\"", "@", "[^\\x00-\\x7f]",
    };

    public static void main(String[] args) throws Exception {
        face();
        members(SeldomOps.class);
        for (Class<?> inner : SeldomOps.class.getDeclaredClasses()) {
            C.due(inner.getName() + " is static", Modifier.isStatic(inner.getModifiers()) ? 1 : 0, 1);
            C.due(inner.getName() + " is not public", Modifier.isPublic(inner.getModifiers()) ? 1 : 0, 0);
            members(inner);
        }
        text(Files.readString(Path.of("src/main/java/SeldomOps.java")));
        C.finish();
    }

    private static void face() {
        Set<String> due = new TreeSet<>(Set.of(FACE));
        Set<String> found = new TreeSet<>();
        for (Method m : SeldomOps.class.getDeclaredMethods()) {
            if (!Modifier.isPrivate(m.getModifiers())) {
                String text = m.toString().replaceAll("^public |SeldomOps\\.", "");
                found.add(text);
            }
        }
        C.due("the methods " + found, found.equals(due) ? 1 : 0, 1);
        Set<String> constants = new TreeSet<>();
        for (Field f : SeldomOps.class.getDeclaredFields()) {
            if (!Modifier.isPrivate(f.getModifiers())) {
                constants.add(f.toString());
            }
        }
        C.due("the constants " + constants, constants.size(), 4);
        Constructor<?>[] constructors = SeldomOps.class.getDeclaredConstructors();
        C.due("constructors", constructors.length, 1);
        C.due("class is public and final", SeldomOps.class.getModifiers(), Modifier.PUBLIC | Modifier.FINAL);
    }

    private static void members(Class<?> c) {
        int fields = 0;
        for (Field f : c.getDeclaredFields()) {
            if (Modifier.isStatic(f.getModifiers())) {
                C.due(f + " is final", Modifier.isFinal(f.getModifiers()) ? 1 : 0, 1);
            } else {
                fields++;
            }
        }
        C.due(c + " has some twenty fields", fields <= 20 ? 1 : 0, 1);
        for (Method m : c.getDeclaredMethods()) {
            C.due(m + " takes seven at most", m.getParameterCount() <= 7 ? 1 : 0, 1);
            for (String face : FACE) {
                if (c != SeldomOps.class && face.contains(" " + m.getName() + "(")) {
                    C.due(m + " bears the name of a public one", 1, 0);
                }
            }
        }
    }

    private static void text(String source) {
        String code = source.replaceAll("(?s)/\\*.*?\\*/", "").replaceAll("//[^\n]*", "");
        for (String word : RULED_OUT) {
            String pattern = Character.isLetter(word.charAt(0)) ? "\\b" + word + (word.endsWith(")") ? "" : "\\b") : word;
            Matcher m = Pattern.compile(pattern).matcher(code);
            C.due("'" + word + "' in the text", m.find() ? 1 : 0, 0);
        }
    }
}
