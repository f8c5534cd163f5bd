import java.lang.reflect.Constructor;
import java.lang.reflect.Field;
import java.lang.reflect.Member;
import java.lang.reflect.Method;
import java.lang.reflect.Modifier;
import java.nio.file.Files;
import java.nio.file.Path;
import java.util.ArrayList;
import java.util.Arrays;
import java.util.List;
import java.util.TreeSet;
import java.util.regex.Pattern;

/** The document's face, and those rules of LANGUAGE.md that can be read off the class and its text. */
public final class FaceTest {
    private static final String[] FACE = {
        "int bell(int,int,int)", "int of(int,int)", "int fill(int,int)", "int store(int,int)", "int row(int,int,int)",
        "int feed(int)", "int upland()", "int told(int)", "int eats(int,int)", "int pass(int)", "int strike(int)",
        "int on(int,int)", "int tuned(int,int)", "int all()", "int meal(int,int)", "int came(int,int)",
        "int dear(int)", "int ring(int)", "int peal(int)", "int good(int)", "int towers()", "int see(int,int,int)",
        "int can(int,int)", "long odds(int,int)", "long mean(int,int)", "int feeding(int,int)", "int gone(int)",
        "int book(int,int)", "int looked()", "int judge(int,int)", "int image()", "int undo()",
        "int act(int,int,int)", "int trace(int)", "int taken(int,int)", "int count(int)", "int tape(int,int,int)",
        "int item(int,int,long)", "long read(int,int)", "int shift(int,int,int,int,int)",
        "int NONE", "int BAD", "int STATE", "int FULL", "long NO", "BellsThatEat()"
    };
    /** Words that stand for what the language leaves out. */
    private static final String[] LEFT_OUT = {
        "throw", "throws", "try", "catch", "synchronized", "assert", "package", "protected", "volatile", "transient",
        "native", "var", "yield", "equals", "hashCode", "toString", "System.out", "System.err", "currentTimeMillis",
        "nanoTime", "Random", "Thread", "Exact", "Optional", "Stream", "HashMap", "Map", "Set", "Object", "lambda",
        "getClass", "strictfp"
    };
    private static int wrong;
    private static int checks;

    private static void due(String what, boolean is) {
        checks++;
        if (!is) {
            wrong++;
            System.out.println("not so: " + what);
        }
    }

    private static String types(Class<?>[] types) {
        List<String> names = new ArrayList<>();
        for (Class<?> t : types) {
            names.add(t.getName());
        }
        return "(" + String.join(",", names) + ")";
    }

    private static void face() {
        TreeSet<String> found = new TreeSet<>();
        TreeSet<String> publicNames = new TreeSet<>();
        for (Method m : BellsThatEat.class.getDeclaredMethods()) {
            if (!Modifier.isPrivate(m.getModifiers())) {
                found.add(m.getReturnType() + " " + m.getName() + types(m.getParameterTypes()));
                publicNames.add(m.getName());
                due(m + " is public and of objects", m.getModifiers() == Modifier.PUBLIC);
            }
        }
        for (Field f : BellsThatEat.class.getDeclaredFields()) {
            if (!Modifier.isPrivate(f.getModifiers())) {
                found.add(f.getType() + " " + f.getName());
                due(f + " is a constant", f.getModifiers() == (Modifier.PUBLIC | Modifier.STATIC | Modifier.FINAL));
            }
        }
        for (Constructor<?> c : BellsThatEat.class.getDeclaredConstructors()) {
            found.add("BellsThatEat" + types(c.getParameterTypes()));
            due("the constructor is public", c.getModifiers() == Modifier.PUBLIC);
        }
        due("the face is the document's: " + found, found.equals(new TreeSet<>(Arrays.asList(FACE))));
        due("the class", BellsThatEat.class.getModifiers() == (Modifier.PUBLIC | Modifier.FINAL));
        due("it extends nothing", BellsThatEat.class.getSuperclass() == Object.class);
        inside(BellsThatEat.class, publicNames);
        Class<?>[] classes = BellsThatEat.class.getDeclaredClasses();
        due("twelve classes at most", classes.length + 1 <= 12);
        for (Class<?> c : classes) {
            due(c + " is static", Modifier.isStatic(c.getModifiers()) && !Modifier.isPublic(c.getModifiers()));
            inside(c, publicNames);
        }
    }

    private static void inside(Class<?> c, TreeSet<String> publicNames) {
        int fields = 0;
        for (Field f : c.getDeclaredFields()) {
            boolean isStatic = Modifier.isStatic(f.getModifiers());
            fields += isStatic ? 0 : 1;
            due(f + ": static fields are final", !isStatic || Modifier.isFinal(f.getModifiers()));
        }
        due(c + " has some twenty fields at most", fields <= 20);
        for (Method m : c.getDeclaredMethods()) {
            due(m + " takes at most seven", m.getParameterCount() <= 7);
            due(m + " is no lambda or bridge", !m.isSynthetic());
            boolean isFace = c == BellsThatEat.class && Modifier.isPublic(m.getModifiers());
            due(m + " bears no name of the face", isFace || !publicNames.contains(m.getName()));
        }
    }

    private static void text() throws Exception {
        String text = Files.readString(Path.of("src/main/java/BellsThatEat.java"));
        due("signs 1 to 127", text.chars().allMatch(c -> c > 0 && c < 128));
        String code = text.replaceAll("(?s)/\\*.*?\\*/", "").replaceAll("//[^\n]*", "")
            .replaceAll("\"[^\"\n]*\"", "\"\"").replaceAll("'.'", "''");
        for (String word : LEFT_OUT) {
            String quoted = Pattern.quote(word);
            due("no " + word, !Pattern.compile("(?<![A-Za-z0-9_])" + quoted + "(?![A-Za-z0-9_])").matcher(code).find());
        }
        due("no lambda or reference", !code.contains("->") && !code.contains("::"));
        due("no text joined by +", !Pattern.compile("\"\\s*\\+|\\+\\s*\"").matcher(code).find());
        for (String line : code.split("\n")) {
            due(line, !line.startsWith("import ") || line.equals("import java.util.Arrays;"));
        }
        int start = 0;
        String[] lines = text.split("\n", -1);
        for (int i = 0; i < lines.length; i++) {
            if (lines[i].matches(" {4,8}[A-Za-z].*\\{")) {
                start = i;
            }
            boolean isEnd = lines[i].matches(" {4,8}\\}") && !lines[start].contains(" class ");
            due("the method at line " + (start + 1) + " is short", !isEnd || i - start <= 60);
        }
    }

    public static void main(String[] args) throws Exception {
        face();
        text();
        System.out.println(checks + " things looked at, " + wrong + " not so");
        if (wrong != 0) {
            System.exit(1);
        }
    }
}
