import java.lang.reflect.Method;
import java.lang.reflect.Modifier;
import java.nio.file.Files;
import java.nio.file.Path;
import java.util.List;
import java.util.Set;
import java.util.TreeSet;
import java.util.regex.Matcher;
import java.util.regex.Pattern;
import java.util.stream.Stream;

/** What README.md shows of calls is what the class answers; each call of the face is shown, each test named. */
public final class SpiteLineReadme {
    private static final Pattern CALL = Pattern.compile("x\\.(\\w+)\\((.*)\\);\\s+// (-?\\d+|[A-Z]+)(: .+)?");
    private static final Pattern LETTERS =
        Pattern.compile("for \\(char letter : \"(.*)\"\\.toCharArray\\(\\)\\) x\\.feed\\(letter\\);");
    private static final String NEW_OBJECT = "SpiteLine x = new SpiteLine();";
    private static final int MOST_CALLS = 512;

    private final Set<String> shown = new TreeSet<>();
    private SpiteLine x = null;
    private int calls = 0;
    private int wrong = 0;

    public static void main(String[] args) throws Exception {
        SpiteLineReadme page = new SpiteLineReadme();
        List<String> lines = Files.readAllLines(Path.of("README.md"));
        page.followBlocks(lines);
        page.showsWholeFace();
        page.namesTests(String.join("\n", lines));
        System.out.println(page.wrong == 0 ? "README.md shows what is answered" : page.wrong + " faults of README.md");
        if (page.wrong != 0) {
            System.exit(1);
        }
    }

    private void blame(String what) {
        wrong++;
        System.out.println("README.md: " + what);
    }

    private void followBlocks(List<String> lines) throws Exception {
        boolean inJava = false;
        for (String line : lines) {
            if (line.startsWith("```")) {
                inJava = line.equals("```java");
            } else if (inJava) {
                follow(line);
            }
        }
    }

    private void follow(String line) throws Exception {
        Matcher call = CALL.matcher(line);
        Matcher letters = LETTERS.matcher(line);
        if (line.equals(NEW_OBJECT)) {
            x = new SpiteLine();
            calls = 0;
        } else if (x == null) {
            blame("no object yet for: " + line);
        } else if (letters.matches()) {
            for (char letter : letters.group(1).toCharArray()) {
                x.feed(letter);
                calls++;
            }
        } else if (call.matches()) {
            compare(line, call.group(1), call.group(2), call.group(3));
            calls++;
        } else {
            blame("this line shows no call with an answer: " + line);
        }
        if (calls > MOST_CALLS) {
            blame("nothing is promised behind 512 calls: " + line);
        }
    }

    private void compare(String line, String name, String given, String due) throws Exception {
        String[] words = given.isEmpty() ? new String[0] : given.split(", ");
        Method method = methodNamed(name, words.length);
        if (method == null) {
            blame("there is no such call: " + line);
            return;
        }
        Object[] values = new Object[words.length];
        for (int i = 0; i < words.length; i++) {
            boolean isFlag = method.getParameterTypes()[i] == boolean.class;
            values[i] = isFlag ? (Object) Boolean.valueOf(words[i]) : (Object) number(words[i]);
        }
        shown.add(name);
        int got = (int) method.invoke(x, values);
        if (got != number(due)) {
            blame(line + " but the answer is " + got);
        }
    }

    private static Method methodNamed(String name, int values) {
        for (Method m : SpiteLine.class.getMethods()) {
            if (m.getDeclaringClass() == SpiteLine.class && m.getName().equals(name) && m.getParameterCount() == values) {
                return m;
            }
        }
        return null;
    }

    /** A number, a letter in quotes, or a constant of the class. */
    private static int number(String word) throws Exception {
        if (word.matches("'.'")) {
            return word.charAt(1);
        }
        if (word.matches("-?\\d+")) {
            return Integer.parseInt(word);
        }
        return SpiteLine.class.getField(word.replace("SpiteLine.", "")).getInt(null);
    }

    private void showsWholeFace() {
        for (Method m : SpiteLine.class.getDeclaredMethods()) {
            if (Modifier.isPublic(m.getModifiers()) && !shown.contains(m.getName())) {
                blame(m.getName() + " is not shown");
            }
        }
    }

    private void namesTests(String page) throws Exception {
        if (!page.contains("\n.ci/run\n")) {
            blame("how to run the tests is not said");
        }
        try (Stream<Path> tests = Files.list(Path.of("src/test/java"))) {
            for (Path test : tests.toList()) {
                String name = test.getFileName().toString().replace(".java", "");
                if (!page.contains("- `" + name + "`: ")) {
                    blame(name + " is not named");
                }
            }
        }
    }
}
