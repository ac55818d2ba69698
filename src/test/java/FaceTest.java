import java.lang.reflect.Constructor;
import java.lang.reflect.Field;
import java.lang.reflect.Method;
import java.lang.reflect.Modifier;
import java.nio.file.Files;
import java.nio.file.Path;
import java.util.Set;
import java.util.TreeSet;
import java.util.regex.Matcher;
import java.util.regex.Pattern;

/** The public face, and the rules of ../shared/LANGUAGE.md that can be seen from outside or in the text. */
public final class FaceTest {
    private static final String IO = "java.lang.IndexOutOfBoundsException";
    private static final String IA = "java.lang.IllegalArgumentException";
    private static final String IS = "java.lang.IllegalStateException";
    private static final String[] METHODS = {
        "int space(int) " + IA + " " + IS,
        "int map(int,int,int,int,int,int,boolean,boolean) " + IO + " " + IA + " " + IS,
        "int unmap(int,int,int) " + IO + " " + IA + " " + IS,
        "int protect(int,int,int,int) " + IO + " " + IA + " " + IS,
        "int move(int,int,int,int) " + IO + " " + IA + " " + IS,
        "int fork(int) " + IO + " " + IS,
        "int end(int) " + IO + " " + IS,
        "int adjust(int,int) " + IO + " " + IA,
        "int limit(int,int) " + IA,
        "int load(int,int,int) " + IO + " " + IA + " " + IS,
        "int store(int,int,int,int) " + IO + " " + IA + " " + IS,
        "int read(int,int) " + IA,
        "int write(int,int,int) " + IA,
        "int sync(int) " + IA,
        "int disk(int,int) " + IA,
        "int reclaim(int) " + IA,
        "int handle(int) " + IO,
        "int join(int,int) " + IO + " " + IA + " " + IS,
        "void merge(int,boolean) " + IO,
        "int scan(int) " + IA,
        "int entry(int,int,int) " + IO + " " + IA,
        "int frame(int,int) " + IA,
        "int list(int,int) " + IA,
        "int about(int,int) " + IO + " " + IA,
        "int count(int) " + IA,
    };
    private static final String[] CONSTANTS = {
        "NONE -1", "NOT_MAPPED -2", "NO_RIGHT -3", "KILLED -4", "FULL -5", "ABSENT 0", "PRESENT 1", "OUT 2", "IDLE 0",
        "ACTIVE 1",
    };
    private static final String[] FORBIDDEN = {
        "\\bimport\\b", "\\bpackage\\b", "->", "::", "\\bfinally\\b", "\\bsynchronized\\b", "\\bassert\\b", "\\btry\\b",
        "\\bcatch\\b", "\\brecord\\s+[A-Z]", "Exact\\b", "\\bSystem\\.(?!arraycopy)", "\\bjava\\.", "\\bstatic\\s*\\{",
        "\\+\\s*\"", "\"\\s*\\+", "[^\\x00-\\x7f]", "\\bwhile\\s*\\(true\\)", "for\\s*\\(;;\\)", "\\bprotected\\b",
    };

    private static final Path DOCUMENT = Path.of("../shared/DOC.md");
    private static final Pattern CALL = Pattern.compile("(?m)^ +public (\\w+ \\w+)(\\(.*?\\)) throws (.*);$");

    private FaceTest() {
    }

    public static void main(String[] args) throws Exception {
        face();
        document();
        constants();
        parts();
        text();
        Check.finish("FaceTest");
    }

    private static void face() {
        Class<?> c = Pagewright.class;
        Check.due("the class is public and final", c.getModifiers(), Modifier.PUBLIC | Modifier.FINAL);
        Constructor<?>[] made = c.getDeclaredConstructors();
        Check.due("constructors", made.length, 1);
        Check.due("the constructor is public", made[0].getModifiers(), Modifier.PUBLIC);
        Check.due("its parameters", made[0].getParameterCount(), 0);
        Set<String> due = new TreeSet<>(Set.of(METHODS));
        Set<String> names = new TreeSet<>();
        Set<String> got = new TreeSet<>();
        for (Method m : c.getDeclaredMethods()) {
            if (!Modifier.isPrivate(m.getModifiers())) {
                got.add(signature(m));
                names.add(m.getName());
                Check.due("the modifiers of " + m.getName(), m.getModifiers(), Modifier.PUBLIC);
            }
        }
        Check.due("the methods", got.toString(), due.toString());
        for (Method m : c.getDeclaredMethods()) {
            boolean bears = Modifier.isPrivate(m.getModifiers()) && names.contains(m.getName());
            Check.due("whether the private " + m.getName() + " bears the name of a public one", bears ? 1 : 0, 0);
        }
    }

    private static String signature(Method m) {
        StringBuilder s = new StringBuilder(m.getReturnType().getName()).append(' ').append(m.getName()).append('(');
        for (Class<?> p : m.getParameterTypes()) {
            s.append(s.charAt(s.length() - 1) == '(' ? "" : ",").append(p.getName());
        }
        s.append(')');
        for (Class<?> e : m.getExceptionTypes()) {
            s.append(' ').append(e.getName());
        }
        return s.toString();
    }

    /** What the list above has must be what the document has. */
    private static void document() throws Exception {
        if (!Files.exists(DOCUMENT)) {
            System.out.println("FaceTest: there is no " + DOCUMENT + " to look into");
            return;
        }
        Matcher call = CALL.matcher(Files.readString(DOCUMENT));
        Set<String> got = new TreeSet<>();
        while (call.find()) {
            StringBuilder s = new StringBuilder(call.group(1)).append(call.group(2).replaceAll(" \\w+(,|\\)) ?", "$1"));
            for (String exception : call.group(3).split(", ")) {
                s.append(" java.lang.").append(exception);
            }
            got.add(s.toString());
        }
        Check.due("the methods of the document", got.toString(), new TreeSet<>(Set.of(METHODS)).toString());
    }

    private static void constants() throws Exception {
        Check.terms("`NONE = -1`: None.");
        Check.due("NONE", Pagewright.NONE, -1);
        Check.terms("`NOT_MAPPED = -2, NO_RIGHT = -3, KILLED = -4, FULL = -5`");
        Check.due("NOT_MAPPED", Pagewright.NOT_MAPPED, -2);
        Check.due("NO_RIGHT", Pagewright.NO_RIGHT, -3);
        Check.due("KILLED", Pagewright.KILLED, -4);
        Check.due("FULL", Pagewright.FULL, -5);
        Check.terms("`ABSENT = 0, PRESENT = 1, OUT = 2`: Entries.");
        Check.due("ABSENT", Pagewright.ABSENT, 0);
        Check.due("PRESENT", Pagewright.PRESENT, 1);
        Check.due("OUT", Pagewright.OUT, 2);
        Check.terms("`IDLE = 0, ACTIVE = 1`: Lists.");
        Check.due("IDLE", Pagewright.IDLE, 0);
        Check.due("ACTIVE", Pagewright.ACTIVE, 1);
        Check.terms("The constants:");
        Set<String> got = new TreeSet<>();
        for (Field f : Pagewright.class.getDeclaredFields()) {
            int modifiers = f.getModifiers();
            if (!Modifier.isPrivate(modifiers)) {
                got.add(f.getName() + " " + f.getInt(null));
                Check.due("the modifiers of " + f.getName(), modifiers,
                        Modifier.PUBLIC | Modifier.STATIC | Modifier.FINAL);
                Check.due("the type of " + f.getName(), f.getType().getName(), "int");
            }
        }
        Check.due("the constants", got.toString(), new TreeSet<>(Set.of(CONSTANTS)).toString());
    }

    private static void parts() {
        Class<?>[] inside = Pagewright.class.getDeclaredClasses();
        Check.due("whether there are at most 12 classes", inside.length <= 11 ? 1 : 0, 1);
        for (Class<?> c : inside) {
            Check.due("whether " + c.getName() + " is static", Modifier.isStatic(c.getModifiers()) ? 1 : 0, 1);
            Check.due("whether it is public or protected",
                    c.getModifiers() & (Modifier.PUBLIC | Modifier.PROTECTED), 0);
            fields(c);
        }
        fields(Pagewright.class);
    }

    private static void fields(Class<?> c) {
        int held = 0;
        for (Field f : c.getDeclaredFields()) {
            boolean isStatic = Modifier.isStatic(f.getModifiers());
            held += isStatic ? 0 : 1;
            boolean isConstant = f.getType().isPrimitive() && Modifier.isFinal(f.getModifiers());
            Check.due("whether " + f + " is other static state", isStatic && !isConstant ? 1 : 0, 0);
        }
        Check.due("whether " + c.getName() + " has at most 20 fields", held <= 20 ? 1 : 0, 1);
        for (Method m : c.getDeclaredMethods()) {
            int most = c == Pagewright.class && m.getName().equals("map") ? 8 : 7;
            Check.due("whether " + m.getName() + " takes too many", m.getParameterCount() > most ? 1 : 0, 0);
        }
    }

    private static void text() throws Exception {
        String text = Files.readString(Path.of("src/main/java/Pagewright.java"));
        for (String forbidden : FORBIDDEN) {
            Matcher found = Pattern.compile(forbidden).matcher(withoutComments(text));
            Check.due("whether " + forbidden + " stands in the text", found.find() ? 1 : 0, 0);
        }
        String[] lines = text.split("\n");
        int start = 0;
        for (int i = 0; i < lines.length; i++) {
            if (lines[i].matches(" {4,8}[A-Za-z].*\\{") && !lines[i].contains(" class ")) {
                start = i;
            }
            if (lines[i].matches(" {4,8}\\}")) {
                Check.due("whether what ends in line " + (i + 1) + " is short", i - start < 60 ? 1 : 0, 1);
                start = i;
            }
        }
    }

    private static String withoutComments(String text) {
        return text.replaceAll("(?s)/\\*.*?\\*/", "").replaceAll("//[^\n]*", "");
    }
}
