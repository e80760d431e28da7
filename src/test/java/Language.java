import java.io.IOException;
import java.lang.reflect.Constructor;
import java.lang.reflect.Field;
import java.lang.reflect.Method;
import java.lang.reflect.Modifier;
import java.nio.file.Files;
import java.nio.file.Path;
import java.util.ArrayList;
import java.util.Arrays;
import java.util.List;
import java.util.TreeSet;
import java.util.regex.Matcher;
import java.util.regex.Pattern;

/** The rules of LANGUAGE.md that can be seen from the source's words and from the compiled face. */
public final class Language {
    private static int wrong = 0;

    private static final String[] FACE = {
        "apart(int,int,int)", "bridge(int)", "counted(int,int,int,int)", "drift(int)", "fact(int,int)", "fault()", "feed(int)",
        "forget(int,int)", "goBack(int)", "heavy(int,int)", "hour(int)", "judge()", "keep(int)", "land()", "least(int,int,int)",
        "lies(int,int,int)", "odds(int,int,int)", "person(int,int)", "seed(int)", "since(int,int)", "tear()", "tell(int,int)",
        "told(int)", "treaty(int,int,int)", "trips(int,int,int)", "weight(int)", "when(int,int)", "write(int,int)"};

    private static final String[] FORBIDDEN = {
        "\\bthrow\\b", "\\bthrows\\b", "\\btry\\b", "\\bcatch\\b", "\\bfinally\\b", "\\bsynchronized\\b", "\\bassert\\b", "->", "::",
        "\\bpackage\\b", "\\bprotected\\b", "Exact\\(", "\\bRandom\\b", "\\bThread\\b", "\\bnative\\b", "\\bvolatile\\b",
        "System\\.(?!arraycopy)", "Arrays\\.(?!fill\\(|copyOf\\(|copyOfRange\\()", "Math\\.(?!min\\(|max\\(|abs\\()",
        "Integer\\.(?!bitCount\\(|compare\\(|min\\(|max\\()", "\\bstatic\\s*\\{", "\\bboolean\\[\\]"};

    public static void main(String[] args) throws IOException {
        String source = Files.readString(Path.of("src/main/java/KnownWeight.java"));
        checkWords(source.replaceAll("(?s)/\\*.*?\\*/|//[^\n]*", ""));
        checkFace();
        checkInside();
        System.out.println(wrong == 0 ? "the rules are kept" : wrong + " rules are broken");
        if (wrong != 0) {
            System.exit(1);
        }
    }

    private static void check(boolean good, String what) {
        if (!good) {
            wrong++;
            System.out.println(what);
        }
    }

    private static void checkWords(String code) {
        for (String word : FORBIDDEN) {
            Matcher m = Pattern.compile(word).matcher(code);
            check(!m.find(), "the source must not have " + word);
        }
        Matcher imports = Pattern.compile("import\\s+([^;]+);").matcher(code);
        while (imports.find()) {
            check(imports.group(1).equals("java.util.Arrays"), "import of " + imports.group(1));
        }
    }

    private static void checkFace() {
        TreeSet<String> face = new TreeSet<>();
        for (Method m : KnownWeight.class.getDeclaredMethods()) {
            if (Modifier.isPublic(m.getModifiers())) {
                String types = Arrays.toString(m.getParameterTypes()).replaceAll("[\\[\\] ]", "");
                face.add(m.getName() + "(" + types + ")");
                check(m.getReturnType() == int.class, m.getName() + " must answer an int");
            } else {
                check(Modifier.isPrivate(m.getModifiers()), m.getName() + " must be private");
            }
        }
        check(face.equals(new TreeSet<>(List.of(FACE))), "the face is " + face);
        TreeSet<String> constants = new TreeSet<>();
        for (Field f : KnownWeight.class.getDeclaredFields()) {
            if (Modifier.isPublic(f.getModifiers())) {
                constants.add(f.getName());
            } else {
                check(Modifier.isPrivate(f.getModifiers()), f.getName() + " must be private");
            }
        }
        check(constants.equals(new TreeSet<>(List.of("NONE", "UNKNOWN", "OUTSIDE", "NOT", "FULL"))), "constants " + constants);
        Constructor<?>[] made = KnownWeight.class.getDeclaredConstructors();
        check(made.length == 1 && made[0].getParameterCount() == 0 && Modifier.isPublic(made[0].getModifiers()), "constructor");
        check(Modifier.isFinal(KnownWeight.class.getModifiers()), "the class must be final");
    }

    private static void checkInside() {
        List<Class<?>> classes = new ArrayList<>(List.of(KnownWeight.class.getDeclaredClasses()));
        check(classes.size() < 12, "too many classes");
        classes.add(KnownWeight.class);
        TreeSet<String> names = new TreeSet<>();
        for (String call : FACE) {
            names.add(call.substring(0, call.indexOf('(')));
        }
        for (Class<?> c : classes) {
            check(c == KnownWeight.class || Modifier.isStatic(c.getModifiers()), c + " must be static");
            int fields = 0;
            for (Field f : c.getDeclaredFields()) {
                boolean isStatic = Modifier.isStatic(f.getModifiers());
                fields += isStatic ? 0 : 1;
                check(!isStatic || Modifier.isFinal(f.getModifiers()), "a static that is not final: " + f);
            }
            check(fields <= 20, c + " has " + fields + " fields");
            for (Method m : c.getDeclaredMethods()) {
                check(m.getParameterCount() <= 7, m + " takes too much");
                check(Modifier.isPublic(m.getModifiers()) || !names.contains(m.getName()), m + " bears the name of a public one");
            }
        }
    }
}
