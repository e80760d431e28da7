import java.io.IOException;
import java.lang.reflect.Constructor;
import java.lang.reflect.Field;
import java.lang.reflect.Method;
import java.lang.reflect.Modifier;
import java.nio.file.Files;
import java.nio.file.Path;
import java.util.ArrayList;
import java.util.List;
import java.util.TreeSet;
import java.util.regex.Matcher;
import java.util.regex.Pattern;

/** The public face as the document shows it: every constant with its number, the constructor, every method, and what stands ahead. */
public final class Face {
    private static final Path DOCUMENT = Path.of("../shared/DOC.md");
    private static final Path PROGRAM = Path.of("src/main/java/KnownWeight.java");
    private static int wrong = 0;

    public static void main(String[] args) throws IOException, IllegalAccessException {
        if (!Files.isReadable(DOCUMENT)) {
            System.out.println("the document is not here: the face is not looked at");
            return;
        }
        String document = Files.readString(DOCUMENT);
        Matcher block = Pattern.compile("```java(.*?)```", Pattern.DOTALL).matcher(document);
        String face = block.find() ? block.group(1) : "";
        List<String> declared = all("public (int \\w+\\([^)]*\\));", face);
        check(declared.size() == 28, "the document shows " + declared.size() + " methods");
        constants(face);
        methods(declared);
        source(declared, document);
        promises(declared, document);
        System.out.println(wrong == 0 ? "the face is as the document shows it" : wrong + " faults of the face");
        if (wrong != 0) {
            System.exit(1);
        }
    }

    private static void check(boolean good, String what) {
        if (!good) {
            wrong++;
            System.out.println(what);
        }
    }

    private static List<String> all(String pattern, String text) {
        List<String> found = new ArrayList<>();
        Matcher m = Pattern.compile(pattern).matcher(text);
        while (m.find()) {
            found.add(m.group(1));
        }
        return found;
    }

    private static void constants(String face) throws IllegalAccessException {
        TreeSet<String> due = new TreeSet<>(all("(\\w+ = -?\\d+)", face));
        check(due.size() == 5, "the document shows the constants " + due);
        TreeSet<String> got = new TreeSet<>();
        for (Field f : KnownWeight.class.getDeclaredFields()) {
            if (Modifier.isPublic(f.getModifiers())) {
                boolean constant = Modifier.isStatic(f.getModifiers()) && Modifier.isFinal(f.getModifiers()) && f.getType() == int.class;
                check(constant, f + " is no constant of int");
                got.add(f.getName() + " = " + (constant ? f.getInt(null) : 0));
            }
        }
        check(got.equals(due), "the constants are " + got);
        Constructor<?>[] made = KnownWeight.class.getDeclaredConstructors();
        check(made.length == 1 && made[0].getParameterCount() == 0 && Modifier.isPublic(made[0].getModifiers()), "the constructor");
        check(KnownWeight.class.getModifiers() == (Modifier.PUBLIC | Modifier.FINAL), "the class is not public and final");
        check(KnownWeight.class.getSuperclass() == Object.class && KnownWeight.class.getInterfaces().length == 0, "the class is of another");
    }

    private static void methods(List<String> declared) {
        TreeSet<String> due = new TreeSet<>();
        for (String one : declared) {
            due.add(one.replaceAll("int \\w+([,)])", "int$1"));
        }
        TreeSet<String> got = new TreeSet<>();
        for (Method m : KnownWeight.class.getDeclaredMethods()) {
            if (!Modifier.isPrivate(m.getModifiers())) {
                check(m.getModifiers() == Modifier.PUBLIC, m + " is otherwise than public");
                List<String> types = new ArrayList<>();
                for (Class<?> type : m.getParameterTypes()) {
                    types.add(type.getName());
                }
                got.add(m.getReturnType().getName() + " " + m.getName() + "(" + String.join(", ", types) + ")");
            }
        }
        check(got.equals(due), "the methods are " + got + ", due are " + due);
    }

    /** In the document's order and words, each group behind the line that the interface says ahead of it. */
    private static void source(List<String> declared, String document) throws IOException {
        List<String> due = new ArrayList<>(declared);
        Matcher ahead = Pattern.compile("Ahead of the calls ([^\n]*) the interface says: (---- [^\n]*)\\.\n").matcher(document);
        int groups = 0;
        while (ahead.find()) {
            groups++;
            List<String> names = all("`(\\w+)`", ahead.group(1));
            int at = indexOf(due, names.get(0));
            for (int k = 0; k < names.size(); k++) {
                check(indexOf(due, names.get(k)) == at + k, names.get(k) + " is not in the document's order");
            }
            due.add(Math.max(0, at), ahead.group(2));
        }
        check(groups == 6, "the document tells of " + groups + " groups of calls");
        String outside = Files.readString(PROGRAM).split("private static final class", 2)[0];
        List<String> got = new ArrayList<>();
        Matcher m = Pattern.compile("public (int \\w+\\([^)]*\\)) \\{|// (---- [^\n]*)\n").matcher(outside);
        while (m.find()) {
            got.add(m.group(1) != null ? m.group(1) : m.group(2));
        }
        check(got.equals(due), "the source has " + got + ", due is " + due);
    }

    private static int indexOf(List<String> declared, String name) {
        for (int k = 0; k < declared.size(); k++) {
            if (declared.get(k).startsWith("int " + name + "(")) {
                return k;
            }
        }
        check(false, "the face has no " + name);
        return -1;
    }

    /** Promise 1 is the constructor's; the others are those of the face, each with its own line. */
    private static void promises(List<String> declared, String document) {
        List<String> promised = all("## Promise \\d+: \\w+\n\n`([^`]*)`:", document);
        check(promised.equals(declared), "promised are " + promised);
    }
}
