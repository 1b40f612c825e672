import java.lang.reflect.Constructor;
import java.lang.reflect.Field;
import java.lang.reflect.Method;
import java.lang.reflect.Modifier;
import java.nio.charset.StandardCharsets;
import java.nio.file.Files;
import java.nio.file.Path;
import java.util.Arrays;
import java.util.Set;
import java.util.TreeSet;
import java.util.regex.Matcher;
import java.util.regex.Pattern;

/** The document's face, and those rules of LANGUAGE.md that can be looked up. */
public final class FaceTest {
    private static final String[] FACE = {
        "int person(int,int,int)", "int personOf(int,int)", "int thing(int,int)", "int of(int,int)",
        "int set(int,int,int)", "int turn(int,int)", "int as(int,int)", "int bid(int,int)", "int call(int)",
        "int leave(int)", "int days(int)", "int now(int)", "int on(int,int,int)", "int means(int,int)",
        "int gone(int)", "int comes(int,int)", "int empty()", "int enough(int,int,int)", "int spend(int,int,int)",
        "int kind(int,int)", "int label(int)", "int first(int,int)", "int worth(int,int)", "int most(int)",
        "int feed(int,int)", "int wipe()", "int station()", "int sheet(int,int,int)", "long write(int,int,long)",
        "int copy(int,int,int,int,int)", "int lays(int)", "int book(int,int)", "int read(int,int)", "int image()",
        "int undo()", "int tear()", "int count(int)", "int status(int)"
    };
    private static final String[] BANNED = {
        "\\bthrow\\b", "\\bthrows\\b", "\\btry\\b", "\\bcatch\\b", "\\bfinally\\b", "\\bsynchronized\\b",
        "\\bassert\\b", "\\bimport\\b", "\\bpackage\\b", "->", "::", "Exact\\b", "@", "\\bstatic\\s*\\{",
        "\\bThread\\b", "\\bObject\\b", "\\bequals\\b", "\\bhashCode\\b", "\\btoString\\b", "\\bdouble\\b",
        "\\bnanoTime\\b", "\\bcurrentTimeMillis\\b", "\\bRandom\\b", "\\bvar\\b", "\\bwhile\\s*\\(\\s*true"
    };

    private static int wrong = 0;

    private static void holds(boolean so, String what) {
        if (!so) {
            wrong++;
            System.out.println("not so: " + what);
        }
    }

    public static void main(String[] args) throws Exception {
        face();
        insides();
        words();
        System.out.println(wrong == 0 ? "the face and the language are as due" : wrong + " rules are broken");
        if (wrong != 0) {
            System.exit(1);
        }
    }

    private static String told(Method m) {
        StringBuilder all = new StringBuilder();
        for (Class<?> p : m.getParameterTypes()) {
            all.append(all.length() == 0 ? "" : ",").append(p.getName());
        }
        return m.getReturnType().getName() + " " + m.getName() + "(" + all + ")";
    }

    private static void face() {
        Class<?> c = LeftTillCalled.class;
        holds(Modifier.isPublic(c.getModifiers()) && Modifier.isFinal(c.getModifiers()), "public and final");
        holds(c.getPackageName().isEmpty(), "without a package");
        Constructor<?>[] made = c.getDeclaredConstructors();
        holds(made.length == 1 && made[0].getParameterCount() == 0, "one constructor");
        holds(made.length == 1 && Modifier.isPublic(made[0].getModifiers()), "a public constructor");
        Set<String> open = new TreeSet<>();
        for (Method m : c.getDeclaredMethods()) {
            if (Modifier.isPrivate(m.getModifiers())) {
                continue;
            }
            holds(Modifier.isPublic(m.getModifiers()), told(m) + " is public or private");
            holds(!Modifier.isStatic(m.getModifiers()), told(m) + " is not static");
            open.add(told(m));
        }
        holds(open.equals(new TreeSet<>(Arrays.asList(FACE))), "the document's face, not " + open);
        for (Field f : c.getDeclaredFields()) {
            holds(Modifier.isPrivate(f.getModifiers()), f + " is private");
        }
    }

    private static void insides() {
        Set<String> names = new TreeSet<>();
        for (Method m : LeftTillCalled.class.getMethods()) {
            names.add(m.getName());
        }
        Class<?>[] inside = LeftTillCalled.class.getDeclaredClasses();
        holds(inside.length < 12, "at most twelve classes");
        look(LeftTillCalled.class, names);
        for (Class<?> c : inside) {
            holds(Modifier.isStatic(c.getModifiers()), c + " is static");
            holds(c.getDeclaredClasses().length == 0, c + " has none inside");
            look(c, names);
        }
    }

    private static void look(Class<?> c, Set<String> names) {
        for (Constructor<?> made : c.getDeclaredConstructors()) {
            holds(made.getParameterCount() == 0, c + " is handed nothing of the object that makes it");
        }
        int fields = 0;
        for (Field f : c.getDeclaredFields()) {
            boolean isStatic = Modifier.isStatic(f.getModifiers());
            holds(!isStatic || Modifier.isFinal(f.getModifiers()), f + " is final");
            fields += isStatic ? 0 : 1;
        }
        holds(fields <= 20, c + " has at most twenty fields");
        for (Method m : c.getDeclaredMethods()) {
            holds(m.getParameterCount() <= 7, m + " takes at most seven");
            boolean own = c == LeftTillCalled.class && Modifier.isPublic(m.getModifiers());
            holds(own || !names.contains(m.getName()), m + " bears no public one's name");
        }
    }

    private static void words() throws Exception {
        Path path = Path.of("src/main/java/LeftTillCalled.java");
        byte[] bytes = Files.readAllBytes(path);
        for (byte b : bytes) {
            holds(b > 0, "signs from 1 to 127");
        }
        String all = new String(bytes, StandardCharsets.UTF_8);
        String code = all.replaceAll("(?s)/\\*.*?\\*/", " ").replaceAll("//[^\n]*", " ");
        for (String banned : BANNED) {
            Matcher m = Pattern.compile(banned).matcher(code);
            holds(!m.find(), "no " + banned);
        }
        Set<String> library = new TreeSet<>(Arrays.asList("System.arraycopy", "Math.min", "Math.max", "Integer.bitCount"));
        Matcher used = Pattern.compile("\\b(System|Math|Integer|Long|Arrays|String)\\.\\w+").matcher(code);
        while (used.find()) {
            holds(library.contains(used.group()), used.group() + " is of the library");
        }
        int since = 0;
        for (String line : code.split("\n")) {
            since = line.matches("    (    )?\\S.*\\) \\{") ? 0 : since + 1;
            holds(since <= 60 || !line.matches(" {8,}\\S.*"), "short methods, near '" + line.trim() + "'");
        }
    }
}
