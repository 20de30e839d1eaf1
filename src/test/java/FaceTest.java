import java.lang.reflect.Constructor;
import java.lang.reflect.Field;
import java.lang.reflect.Method;
import java.lang.reflect.Modifier;
import java.nio.file.Files;
import java.nio.file.Path;
import java.util.ArrayList;
import java.util.Arrays;
import java.util.HashSet;
import java.util.List;
import java.util.Set;
import java.util.TreeSet;

/** The face of the class is the document's, and the file keeps to those rules of LANGUAGE.md that can be seen so. */
public final class FaceTest {
    private static final String[] FACE = {
        "int tap(int,int,int,int,boolean) IllegalArgumentException IllegalStateException",
        "int remove(int) IndexOutOfBoundsException",
        "int claim(int,int,int) IllegalArgumentException",
        "int settle(int) IllegalArgumentException",
        "int set(int,int) IndexOutOfBoundsException IllegalArgumentException",
        "int append(int) IllegalArgumentException IllegalStateException",
        "int clearBuffer()",
        "int firstError()",
        "int load() IllegalArgumentException",
        "int undo() IllegalStateException",
        "int tapOf(int,int) IndexOutOfBoundsException IllegalArgumentException",
        "int day(int,int,int) IllegalArgumentException",
        "int week(int,int,int) IllegalArgumentException",
        "int count(int) IllegalArgumentException",
        "int ledger(int,int,int) IllegalArgumentException",
        "int ifTapped(int,int,int,int,boolean) IllegalArgumentException",
        "int whyNot(int,int,int) IllegalArgumentException",
        "int leaky()",
        "int leastCap()",
        "double capShare()",
        "long digest()",
    };
    private static final String[] RULED_OUT = {"import ", "package ", "catch", "finally", "->", "::", "assert",
        "synchronized", "Exact", "Double.", "Float.", "System.", "Thread", "Random", "Object", "equals", "hashCode",
        "toString", "instanceof", "protected"};

    private static int wrong = 0;

    private static void check(boolean right, String what) {
        if (!right) {
            wrong++;
            System.out.println(what);
        }
    }

    private static String told(Method m) {
        StringBuilder s = new StringBuilder(m.getReturnType().getName()).append(' ').append(m.getName()).append('(');
        Class<?>[] types = m.getParameterTypes();
        for (int i = 0; i < types.length; i++) {
            s.append(i == 0 ? "" : ",").append(types[i].getName());
        }
        s.append(')');
        for (Class<?> e : m.getExceptionTypes()) {
            s.append(' ').append(e.getSimpleName());
        }
        return s.toString();
    }

    private static void checkFace() {
        Class<?> c = CapWallets.class;
        check(Modifier.isPublic(c.getModifiers()) && Modifier.isFinal(c.getModifiers()), "the class is public and final");
        Set<String> names = new HashSet<>();
        Set<String> found = new TreeSet<>();
        for (Method m : c.getDeclaredMethods()) {
            if (!Modifier.isPrivate(m.getModifiers())) {
                check(Modifier.isPublic(m.getModifiers()), "not private: " + m);
                found.add(told(m));
                names.add(m.getName());
            }
        }
        check(found.equals(new TreeSet<>(Arrays.asList(FACE))), "the methods are " + found);
        checkPrivate(c, names);
        Constructor<?>[] made = c.getDeclaredConstructors();
        check(made.length == 1 && Modifier.isPublic(made[0].getModifiers()), "one public constructor");
        check(made[0].getParameterCount() == 0 && made[0].getExceptionTypes().length == 0, "a plain constructor");
        for (Field f : c.getDeclaredFields()) {
            boolean open = f.getName().equals("NONE");
            check(open == Modifier.isPublic(f.getModifiers()) && open != Modifier.isPrivate(f.getModifiers()), "field " + f);
        }
    }

    private static void checkPrivate(Class<?> c, Set<String> names) {
        for (Method m : c.getDeclaredMethods()) {
            boolean face = c == CapWallets.class && Modifier.isPublic(m.getModifiers());
            check(face || !names.contains(m.getName()), "bears the name of a public one: " + m);
            check(m.getParameterCount() <= 7, "too many parameters: " + m);
        }
        int own = 0;
        for (Field f : c.getDeclaredFields()) {
            boolean still = Modifier.isStatic(f.getModifiers());
            check(!still || Modifier.isFinal(f.getModifiers()), "static, but not final: " + f);
            own += still ? 0 : 1;
        }
        check(own <= 20, "too many fields: " + c);
        check(c.getDeclaredClasses().length <= 12, "too many classes");
        for (Class<?> inside : c.getDeclaredClasses()) {
            check(Modifier.isStatic(inside.getModifiers()), "not static: " + inside);
            check(!Modifier.isPublic(inside.getModifiers()), "public: " + inside);
            checkPrivate(inside, names);
        }
    }

    private static String withoutComments(String source) {
        return source.replaceAll("(?s)/\\*.*?\\*/", "").replaceAll("//[^\n]*", "");
    }

    private static void checkSource() throws java.io.IOException {
        String source = Files.readString(Path.of("src/main/java/CapWallets.java"));
        source.chars().forEach(c -> check(c == '\n' || c >= 32 && c < 127, "a sign that is not plain: " + c));
        String code = withoutComments(source);
        for (String word : RULED_OUT) {
            check(!code.contains(word), "ruled out: " + word);
        }
        List<String> texts = new ArrayList<>();
        for (String line : code.split("\n")) {
            check(!line.contains("\"") || line.contains("throw new "), "a text outside a throw: " + line);
            texts.add(line);
        }
        int start = 0;
        for (int i = 0; i < texts.size(); i++) {
            if (texts.get(i).matches(" {4,8}[a-z].*\\{")) {
                start = i;
            }
            check(!texts.get(i).matches(" {4,8}\\}") || i - start <= 60
                || texts.get(start).contains(" class "), "a long method at line " + start);
        }
    }

    public static void main(String[] args) throws java.io.IOException {
        checkFace();
        checkSource();
        System.out.println(wrong == 0 ? "the face and the file are as told" : wrong + " are not as told");
        if (wrong != 0) {
            System.exit(1);
        }
    }
}
