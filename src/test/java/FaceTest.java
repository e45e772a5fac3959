import java.io.IOException;
import java.lang.reflect.Field;
import java.lang.reflect.Member;
import java.lang.reflect.Method;
import java.lang.reflect.Modifier;
import java.nio.file.Files;
import java.nio.file.Path;
import java.util.Arrays;
import java.util.Set;
import java.util.TreeSet;

/** The public face, and what of the language can be seen from outside and from the text. */
public final class FaceTest {
    private static final String[] FACE = {"int person(int,int)", "int post(int,boolean,int,int)", "int sign(int)",
        "boolean end(int)", "int rule()", "int crafts(int,int)", "int may(int,int)", "int beside(int,int)",
        "int put(int,int)", "int sheet(int,int,int,int)", "int good()", "int day()", "int who(int,int)",
        "int judge(int)", "int broken()", "int works(int)", "int best()", "int fill()", "int ill(int)",
        "int free(int)", "int worth()", "int none()", "int can(int)", "int breaking(int)", "int few(int)",
        "int till(int,int)", "int law(int,int)", "int price(int)", "int written()", "int ever()", "int round()",
        "int lasts()", "int lessons()", "int most(int)", "int fresh()", "int go(int,int)", "int met(int)", "int all()",
        "int soon(int)", "int often(int,int)", "int alternate(int)", "int chairs(int)", "int unlike()",
        "boolean keep(int)", "boolean again(int)", "int count(int)", "int row(int)"};
    private static final String[] BANNED = {"->", "::", "catch", "finally", "synchronized", "assert ", "instanceof",
        "System.out", "System.nano", "System.current", "Random", "Thread", "Exact(", "import java.util.*", "@",
        "record ", "static {", ".stream", "String.format", "native ", "volatile ", "double ", "float ", "package "};

    public static void main(String[] args) throws IOException {
        Checks.part("the face");
        publicMembers();
        Class<?> c = NotWhereYesterday.class;
        Set<String> names = new TreeSet<>();
        for (Method m : c.getDeclaredMethods()) {
            if (Modifier.isPublic(m.getModifiers())) {
                names.add(m.getName());
            }
        }
        membersOf(c, names, true);
        for (Class<?> inner : c.getDeclaredClasses()) {
            Checks.yes(inner + " is static", Modifier.isStatic(inner.getModifiers()));
            Checks.no(inner + " is public", Modifier.isPublic(inner.getModifiers()));
            membersOf(inner, names, false);
        }
        Checks.yes("some twelve classes", c.getDeclaredClasses().length <= 12);
        Checks.part("the text");
        source();
        Checks.end();
    }

    private static void publicMembers() {
        Class<?> c = NotWhereYesterday.class;
        Checks.yes("public and final", Modifier.isPublic(c.getModifiers()) && Modifier.isFinal(c.getModifiers()));
        Checks.is("constructors", c.getDeclaredConstructors().length, 1);
        Checks.is("constructors of the face", c.getConstructors().length, 1);
        Checks.is("constants", c.getFields().length, 1);
        Set<String> want = new TreeSet<>(Arrays.asList(FACE));
        for (Method m : c.getDeclaredMethods()) {
            if (Modifier.isPublic(m.getModifiers())) {
                StringBuilder s = new StringBuilder(m.getReturnType() + " " + m.getName() + "(");
                for (Class<?> p : m.getParameterTypes()) {
                    s.append(s.charAt(s.length() - 1) == '(' ? "" : ",").append(p);
                }
                Checks.yes(s + ") is of the face", want.remove(s + ")"));
            }
        }
        Checks.yes("missing: " + want, want.isEmpty());
    }

    private static void membersOf(Class<?> c, Set<String> names, boolean outer) {
        int fields = 0;
        for (Field f : c.getDeclaredFields()) {
            boolean constant = Modifier.isStatic(f.getModifiers());
            Checks.yes(f + " is final", !constant || Modifier.isFinal(f.getModifiers()));
            Checks.yes(f + " is private", !outer || f.getName().equals("NONE") || isPrivate(f));
            fields += constant ? 0 : 1;
        }
        Checks.yes(c + " has some twenty fields: " + fields, fields <= 20);
        for (Method m : c.getDeclaredMethods()) {
            boolean face = outer && Modifier.isPublic(m.getModifiers());
            Checks.yes(m + " is private", !outer || face || isPrivate(m));
            Checks.yes(m + " has no name of the face", face || !names.contains(m.getName()));
            Checks.yes(m + " takes at most seven", m.getParameterCount() <= 7);
        }
    }

    private static boolean isPrivate(Member m) {
        return Modifier.isPrivate(m.getModifiers());
    }

    private static void source() throws IOException {
        String text = Files.readString(Path.of("src/main/java/NotWhereYesterday.java"));
        for (String banned : BANNED) {
            Checks.no("has " + banned, text.contains(banned));
        }
        int start = 0;
        int number = 0;
        for (String line : text.split("\n")) {
            number++;
            Checks.yes("signs of line " + number, line.chars().allMatch(c -> c >= 32 && c < 127));
            Checks.yes("an import of line " + number, !line.startsWith("import ")
                    || line.equals("import java.util.Arrays;") || line.equals("import java.util.NoSuchElementException;"));
            if (line.matches(" {4,8}[a-zA-Z].*\\) (throws .*)?\\{")) {
                start = number;
            }
            if (line.matches(" {4,8}\\}")) {
                Checks.yes("the method that ends at line " + number + " is short", number - start <= 60);
            }
        }
    }
}
