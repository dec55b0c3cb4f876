import java.io.IOException;
import java.lang.management.ManagementFactory;
import java.lang.reflect.Constructor;
import java.lang.reflect.Field;
import java.lang.reflect.Method;
import java.lang.reflect.Modifier;
import java.nio.file.Files;
import java.nio.file.Path;
import java.util.List;
import java.util.Set;
import java.util.TreeSet;
import java.util.regex.Matcher;
import java.util.regex.Pattern;

/** The face of the class, what LANGUAGE.md rules out as far as it can be seen, and the room that calls take. */
public final class LanguageTest {
    private static final Set<String> FACE = new TreeSet<>(List.of("int write(int)", "int wipe()", "int fault()",
        "int lay()", "int power(int,int)", "int leave(int,int)", "int look(int,int)", "int mode(int)", "int slide(int)",
        "int undo()", "int cell(int,int)", "int ranked(int,int,int)", "int hides(int,int)", "int bunch(int,int)",
        "int enough(int)", "int noise(int)", "long odds(int)", "int factor(int,int)", "int drawn(int)",
        "int count(int)"));

    public static void main(String[] args) throws IOException {
        methods();
        fieldsAndConstructors();
        classesInside();
        source(args.length > 0 ? args[0] : "src/main/java/RankedEchoes.java");
        room();
        Due.end();
    }

    private static String told(Method m) {
        StringBuilder all = new StringBuilder(m.getReturnType() + " " + m.getName() + "(");
        for (Class<?> p : m.getParameterTypes()) {
            all.append(all.charAt(all.length() - 1) == '(' ? "" : ",").append(p);
        }
        return all.append(")").toString();
    }

    private static void methods() {
        Set<String> names = new TreeSet<>();
        Set<String> found = new TreeSet<>();
        for (Method m : RankedEchoes.class.getDeclaredMethods()) {
            if (Modifier.isPublic(m.getModifiers())) {
                found.add(told(m));
                names.add(m.getName());
                Due.holds(told(m) + " is of the object", !Modifier.isStatic(m.getModifiers()));
            } else {
                Due.holds(told(m) + " is private", Modifier.isPrivate(m.getModifiers()));
            }
        }
        Due.holds("the methods are those of the face: " + found, found.equals(FACE));
        for (Method m : RankedEchoes.class.getDeclaredMethods()) {
            Due.holds(m.getName() + " has a name of its own", Modifier.isPublic(m.getModifiers()) || !names.contains(m.getName()));
            Due.holds(m.getName() + " has seven parameters at most", m.getParameterCount() <= 7);
        }
    }

    private static void fieldsAndConstructors() {
        Set<String> constants = new TreeSet<>();
        for (Field f : RankedEchoes.class.getDeclaredFields()) {
            if (Modifier.isPublic(f.getModifiers())) {
                constants.add(f.getName());
                Due.holds(f.getName() + " is a constant", Modifier.isStatic(f.getModifiers()) && Modifier.isFinal(f.getModifiers()));
            } else {
                Due.holds(f.getName() + " is private", Modifier.isPrivate(f.getModifiers()));
            }
        }
        Due.holds("the constants are those of the face", constants.equals(Set.of("BAD", "NO", "FULL", "NONE")));
        Constructor<?>[] all = RankedEchoes.class.getDeclaredConstructors();
        Due.holds("one public constructor", all.length == 1 && all[0].getParameterCount() == 0
            && Modifier.isPublic(all[0].getModifiers()));
        Due.holds("the class is public and final", Modifier.isPublic(RankedEchoes.class.getModifiers())
            && Modifier.isFinal(RankedEchoes.class.getModifiers()));
    }

    private static void classesInside() {
        Class<?>[] inside = RankedEchoes.class.getDeclaredClasses();
        Due.holds("twelve classes at most", inside.length < 12);
        for (Class<?> c : inside) {
            int is = c.getModifiers();
            Due.holds(c + " is static and not seen", Modifier.isStatic(is) && !Modifier.isPublic(is) && !Modifier.isProtected(is));
            for (Field f : c.getDeclaredFields()) {
                Due.holds(f + " is final, if static", !Modifier.isStatic(f.getModifiers()) || Modifier.isFinal(f.getModifiers()));
            }
        }
    }

    private static void source(String path) throws IOException {
        String code = Files.readString(Path.of(path)).replaceAll("(?s)/\\*.*?\\*/", "").replaceAll("//[^\n]*", "");
        String[] ruledOut = {"\\bthrow\\b", "\\btry\\b", "\\bcatch\\b", "\\bsynchronized\\b", "\\bassert\\b", "->", "::",
            "Exact\\(", "\\bpackage\\b", "\\bObject\\b", "\\bSystem\\.(?!arraycopy)", "\\bstatic \\{", "\\bMath\\.random",
            "\\bprotected\\b", "\\bvar\\b", "\\bdouble\\b", "\\bfloat\\b", "\" \\+", "\\+ \""};
        for (String word : ruledOut) {
            Due.holds("no " + word, !Pattern.compile(word).matcher(code).find());
        }
        Matcher imports = Pattern.compile("import ([^;]*);").matcher(code);
        while (imports.find()) {
            Due.holds("import of " + imports.group(1), imports.group(1).equals("java.util.Arrays"));
        }
        Matcher bodies = Pattern.compile("(?m)^( {4}| {8})(?=\\S)[^\n;=]*\\([^\n;]*\\) \\{\n(?s:.*?)^\\1\\}$").matcher(code);
        int found = 0;
        while (bodies.find()) {
            found++;
            long lines = bodies.group().lines().count();
            Due.holds(bodies.group().lines().findFirst().get().trim() + " is short: " + lines, lines <= 60);
        }
        Due.holds("methods are found: " + found, found > 50);
    }

    /** One run lives in one room: what 512 calls make has to be little, and is nothing. */
    private static void room() {
        com.sun.management.ThreadMXBean bean = (com.sun.management.ThreadMXBean) ManagementFactory.getThreadMXBean();
        RankedEchoes x = new RankedEchoes();
        callAll(x);
        long before = bean.getCurrentThreadAllocatedBytes();
        for (int k = 0; k < 512; k++) {
            callAll(x);
        }
        long made = bean.getCurrentThreadAllocatedBytes() - before;
        Due.holds("calls make no objects, but made " + made + " bytes", made < 20000);
    }

    private static long callAll(RankedEchoes x) {
        long sum = x.write(';') + x.fault() + x.lay() + x.wipe();
        sum += x.power(1, 1) + x.power(1, 9) + x.leave(2, 1) + x.leave(2, 0) + x.look(0, 5) + x.look(0, 6);
        sum += x.mode(1) + x.mode(0) + x.slide(4) + x.undo() + x.cell(3, 4) + x.cell(3, 6) + x.ranked(3, 2, 1);
        sum += x.hides(5, -1) + x.bunch(0, 2) + x.enough(0) + x.noise(3) + x.odds(0) + x.factor(1, 1000000);
        return sum + x.drawn(4) + x.drawn(21) + x.count(7);
    }
}
