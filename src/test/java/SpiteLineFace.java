import java.lang.reflect.Constructor;
import java.lang.reflect.Field;
import java.lang.reflect.Method;
import java.lang.reflect.Modifier;
import java.nio.file.Files;
import java.nio.file.Path;
import java.util.Set;
import java.util.TreeSet;
import java.util.regex.Matcher;
import java.util.regex.Pattern;

/** The public face is the document's and no more; the source keeps to those rules of LANGUAGE.md that can be looked up. */
public final class SpiteLineFace {
    private static final String[] METHODS = {
        "feed(int)", "line()", "fault()", "told(int)", "person(int,int)", "station(int,int)", "mien(int,int)",
        "feet(int,boolean)", "flowers(int,boolean)", "walk(int,int)", "fog(int)", "train(int)", "drift(int)", "undo(int)",
        "stops()", "calm(int)", "journey(int)", "never(int)", "cut(int)", "aunts(int,int)", "chance(int,int)",
        "ran(int,boolean)", "hoped(int)", "sure()", "look()", "write(int,int)", "judge()", "tear()", "seed(int)",
        "keep(int)", "goBack(int)"};
    private static final String[] BANNED = {
        "throw", "throws", "try", "catch", "finally", "synchronized", "assert", "import", "package", "transient", "volatile",
        "System\\s*\\.\\s*(?!arraycopy\\b)\\w+", "\\w+Exact", "->", "::", "instanceof\\s+\\w+\\s*\\("};
    private static int wrong = 0;

    private static void check(boolean is, String what) {
        if (!is) {
            wrong++;
            System.out.println(what);
        }
    }

    public static void main(String[] args) throws Exception {
        Class<?> face = SpiteLine.class;
        check(Modifier.isPublic(face.getModifiers()) && Modifier.isFinal(face.getModifiers()), "the class is not public and final");
        methods(face);
        fields(face);
        Constructor<?>[] made = face.getDeclaredConstructors();
        check(made.length == 1 && Modifier.isPublic(made[0].getModifiers()) && made[0].getParameterCount() == 0, "constructors differ");
        nested(face);
        source();
        System.out.println(wrong == 0 ? "the face is as due" : wrong + " faults of the face");
        if (wrong != 0) {
            System.exit(1);
        }
    }

    private static void methods(Class<?> face) {
        Set<String> due = new TreeSet<>(Set.of(METHODS));
        Set<String> open = new TreeSet<>();
        Set<String> names = new TreeSet<>();
        for (Method m : face.getDeclaredMethods()) {
            if (Modifier.isPublic(m.getModifiers())) {
                open.add(head(m));
                names.add(m.getName());
                check(m.getReturnType() == int.class, m + " does not answer an int");
                check(!Modifier.isStatic(m.getModifiers()), m + " is static");
            }
        }
        check(open.equals(due), "public methods are " + open);
        for (Method m : face.getDeclaredMethods()) {
            if (!Modifier.isPublic(m.getModifiers())) {
                check(Modifier.isPrivate(m.getModifiers()), m + " is not private");
                check(!names.contains(m.getName()), m + " bears a public name");
                check(m.getParameterCount() <= 7, m + " takes too many");
            }
        }
    }

    private static String head(Method m) {
        StringBuilder b = new StringBuilder(m.getName()).append('(');
        for (Class<?> c : m.getParameterTypes()) {
            b.append(b.charAt(b.length() - 1) == '(' ? "" : ",").append(c.getName());
        }
        return b.append(')').toString();
    }

    private static void fields(Class<?> face) {
        Set<String> due = Set.of("NONE", "UNKNOWN", "OUTSIDE", "NOT", "FULL");
        int open = 0;
        for (Field f : face.getDeclaredFields()) {
            int m = f.getModifiers();
            if (Modifier.isPublic(m)) {
                open++;
                check(due.contains(f.getName()) && Modifier.isStatic(m) && f.getType() == int.class, f + " is open");
            } else {
                check(Modifier.isPrivate(m), f + " is not private");
            }
            check(!Modifier.isStatic(m) || Modifier.isFinal(m), f + " is static state");
        }
        check(open == due.size(), "public constants: " + open);
        check(SpiteLine.NONE == -1 && SpiteLine.UNKNOWN == -1000000001 && SpiteLine.OUTSIDE == -1000000002
            && SpiteLine.NOT == -1000000003 && SpiteLine.FULL == -1000000004, "constants differ");
    }

    private static void nested(Class<?> face) {
        check(face.getDeclaredClasses().length < 12, "too many classes");
        for (Class<?> c : face.getDeclaredClasses()) {
            check(Modifier.isStatic(c.getModifiers()) && !Modifier.isPublic(c.getModifiers()), c + " is not static or open");
            int own = 0;
            for (Field f : c.getDeclaredFields()) {
                own += Modifier.isStatic(f.getModifiers()) ? 0 : 1;
            }
            check(own <= 20, c + " has too many fields");
        }
    }

    private static void source() throws Exception {
        String code = Files.readString(Path.of("src/main/java/SpiteLine.java"));
        code = code.replaceAll("(?s)/\\*.*?\\*/", " ").replaceAll("//[^\n]*", " ");
        for (String banned : BANNED) {
            String sought = Character.isLetter(banned.charAt(0)) ? "\\b" + banned + "\\b" : banned;
            Matcher m = Pattern.compile(sought).matcher(code);
            check(!m.find(), "the source holds " + banned);
        }
    }
}
