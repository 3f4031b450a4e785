import java.lang.reflect.Constructor;
import java.lang.reflect.Field;
import java.lang.reflect.Method;
import java.lang.reflect.Modifier;
import java.nio.file.Files;
import java.nio.file.Path;
import java.util.ArrayList;
import java.util.Arrays;
import java.util.List;
import java.util.TreeSet;
import java.util.regex.Matcher;
import java.util.regex.Pattern;

/** The face of the class, and those rules of LANGUAGE.md that can be seen in its text. */
public final class LanguageTest {
    private static final Path SOURCE = Path.of("src/main/java/OathButtons.java");
    private static final String[] FACE = {
        "int feed(int,int,int,int,int)", "int end(int)", "int regiment()", "int fault(int)", "int button(int,int)",
        "int coat(int,int)", "int free()", "int sworn(int,int)", "int many(int)", "int does(int,int)", "boolean undoes(int)",
        "int cut(int)", "int sew(int)", "int day()", "boolean undo()", "boolean redo()", "int keep(int,int)", "int rest(int)",
        "int ties(int,int)", "int clash(int,int)", "int leave(int,int)", "int asked(int,int)", "int holds(int,int,int)",
        "long odds(int,int,int)", "int first(int)", "int will(int,int)", "int truce()", "int calm()", "int likes(int,int)",
        "int lies(int)", "int tug(int,int,boolean)", "boolean untell(int)", "int later(int)", "int swore(int)", "int ask(int,int)",
        "int image(int)", "int back(int)", "int about(int)",
    };

    public static void main(String[] args) throws Exception {
        face();
        classes();
        words();
        methodsAreShort();
        Due.endTest();
    }

    private static String told(Method m) {
        List<String> types = new ArrayList<>();
        for (Class<?> type : m.getParameterTypes()) {
            types.add(type.getSimpleName());
        }
        return m.getReturnType().getSimpleName() + " " + m.getName() + "(" + String.join(",", types) + ")";
    }

    private static void face() {
        Due.is("public final", OathButtons.class.getModifiers(), Modifier.PUBLIC | Modifier.FINAL);
        TreeSet<String> seen = new TreeSet<>();
        for (Method m : OathButtons.class.getDeclaredMethods()) {
            if (Modifier.isPublic(m.getModifiers())) {
                seen.add(told(m));
            } else {
                Due.is("not public, so private: " + m, Modifier.isPrivate(m.getModifiers()), true);
            }
        }
        Due.is("the face: " + seen, seen.equals(new TreeSet<>(Arrays.asList(FACE))), true);
        for (Field f : OathButtons.class.getDeclaredFields()) {
            Due.is("private, or NONE: " + f, Modifier.isPrivate(f.getModifiers()) || f.getName().equals("NONE"), true);
        }
        Constructor<?>[] made = OathButtons.class.getDeclaredConstructors();
        Due.is("one constructor", made.length, 1);
        Due.is("it is public", Modifier.isPublic(made[0].getModifiers()), true);
    }

    private static void classes() {
        Class<?>[] inside = OathButtons.class.getDeclaredClasses();
        Due.is("more than twelve classes", inside.length + 1 > 12, false);
        List<String> names = new ArrayList<>();
        for (String told : FACE) {
            names.add(told.substring(told.indexOf(' ') + 1, told.indexOf('(')));
        }
        List<Class<?>> all = new ArrayList<>(Arrays.asList(inside));
        all.add(OathButtons.class);
        for (Class<?> c : all) {
            Due.is("classes inside are static: " + c, c == OathButtons.class || Modifier.isStatic(c.getModifiers()), true);
            int fields = 0;
            for (Field f : c.getDeclaredFields()) {
                fields += Modifier.isStatic(f.getModifiers()) ? 0 : 1;
                Due.is("static is final: " + f, !Modifier.isStatic(f.getModifiers()) || Modifier.isFinal(f.getModifiers()), true);
            }
            Due.is("more than twenty fields: " + c, fields > 20, false);
            for (Method m : c.getDeclaredMethods()) {
                Due.is("more than seven parameters: " + m, m.getParameterCount() > 7, false);
                Due.is("lambda: " + m, m.isSynthetic(), false);
                Due.is("a name of the face: " + m, c != OathButtons.class && names.contains(m.getName()), false);
            }
        }
    }

    /** The text without comments and without what stands in quotes. */
    private static String bare() throws Exception {
        String text = Files.readString(SOURCE);
        text = text.replaceAll("(?s)/\\*.*?\\*/", "").replaceAll("//[^\n]*", "");
        return text.replaceAll("\"[^\"\n]*\"", "\"\"").replaceAll("'[^'\n]+'", "' '");
    }

    private static void words() throws Exception {
        String text = bare();
        String[] banned = {"throw", "throws", "try", "catch", "finally", "synchronized", "assert", "import", "package", "Thread\\.",
            "Runtime", "Random", "Scanner", "hashCode", "toString", "double", "float", "var", "yield", "System\\.(?!arraycopy)",
            "\\w+Exact", "protected", "volatile", "transient", "native"};
        for (String word : banned) {
            Matcher m = Pattern.compile("\\b(" + word + ")").matcher(text);
            boolean found = false;
            while (m.find()) {
                int behind = m.end();
                found |= behind >= text.length() || !Character.isJavaIdentifierPart(text.charAt(behind)) || word.endsWith(".");
            }
            Due.is("the word " + word, found, false);
        }
        for (String sign : new String[] {"->", "::", "\"\" +", "+ \"\"", "while (true)", "for (;;)"}) {
            Due.is("the sign " + sign, text.contains(sign), false);
        }
        String whole = Files.readString(SOURCE);
        Due.is("signs above 127", whole.chars().anyMatch(c -> c > 127), false);
    }

    private static void methodsAreShort() throws Exception {
        String[] lines = bare().split("\n", -1);
        Pattern head = Pattern.compile("^( {4}| {8})\\S.*\\) \\{$");
        for (int i = 0; i < lines.length; i++) {
            Matcher m = head.matcher(lines[i]);
            if (m.find() && !lines[i].contains(" class ")) {
                int last = i;
                while (last < lines.length && !lines[last].equals(m.group(1) + "}")) {
                    last++;
                }
                Due.is("longer than sixty lines: " + lines[i].trim(), last - i > 60, false);
            }
        }
    }
}
