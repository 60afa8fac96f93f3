import java.io.IOException;
import java.lang.reflect.Method;
import java.lang.reflect.Modifier;
import java.nio.file.Files;
import java.nio.file.Path;
import java.util.ArrayList;
import java.util.List;
import java.util.Set;
import java.util.TreeSet;
import java.util.regex.Matcher;
import java.util.regex.Pattern;

/**
 * Writes ReadmeTest.java from the pieces of Java in README.md: a piece that begins with a method (or the
 * comment of one) is put into the class, the others follow one another in one run. So what the page shows
 * is compiled, and each call is held against the answer that stands behind it.
 */
public final class ReadmeCalls {
    private static final Pattern PIECE = Pattern.compile("(?ms)^```java\\n(.*?)^```$");
    private static final Pattern NEW = Pattern.compile("SkyLights \\w+ = new SkyLights\\(\\);.*");
    private static final Pattern CALL = Pattern.compile("(.*\\));\\s+// (-?\\d+|NONE|BAD|STATE|FULL)(?::? .*)?");
    private static final Pattern NAME = Pattern.compile("\\blights\\.(\\w+)\\(");

    private final StringBuilder methods = new StringBuilder();
    private final StringBuilder shown = new StringBuilder();
    private final StringBuilder held = new StringBuilder();
    private final Set<String> missing = face();
    private final List<String> faults = new ArrayList<>();

    public static void main(String[] args) throws IOException {
        if (args.length != 2) {
            System.out.println("ReadmeCalls takes the page and the file to write");
            System.exit(1);
        }
        ReadmeCalls calls = new ReadmeCalls();
        calls.read(Files.readString(Path.of(args[0])));
        if (!calls.faults.isEmpty()) {
            calls.faults.forEach(fault -> System.out.println("ReadmeCalls: " + fault));
            System.exit(1);
        }
        Files.writeString(Path.of(args[1]), calls.test());
    }

    private static Set<String> face() {
        Set<String> names = new TreeSet<>();
        for (Method method : SkyLights.class.getDeclaredMethods()) {
            if (Modifier.isPublic(method.getModifiers())) {
                names.add(method.getName());
            }
        }
        return names;
    }

    private void read(String page) {
        Matcher piece = PIECE.matcher(page);
        while (piece.find()) {
            String text = piece.group(1);
            if (text.startsWith("/**") || text.startsWith("static ")) {
                methods.append(text);
            } else {
                shown.append(text);
                text.lines().filter(line -> !line.isBlank()).forEach(this::readLine);
            }
        }
        if (!missing.isEmpty()) {
            faults.add("the page does not show " + missing);
        }
    }

    private void readLine(String line) {
        Matcher call = CALL.matcher(line);
        if (NEW.matcher(line).matches()) {
            held.append(line).append('\n');
        } else if (call.matches()) {
            String asked = call.group(1);
            String told = asked.replace("\\", "\\\\").replace("\"", "\\\"");
            String want = call.group(2);
            want = Character.isLetter(want.charAt(0)) ? "SkyLights." + want : want;
            held.append("due.is(\"" + told + "\", " + asked + ", " + want + ");\n");
            Matcher name = NAME.matcher(asked);
            while (name.find()) {
                missing.remove(name.group(1));
            }
        } else {
            faults.add("no call with its answer: " + line);
        }
    }

    private String test() {
        return "public final class ReadmeTest {\n" + methods
                + "static void asShown() {\n" + shown + "}\n"
                + "public static void main(String[] args) {\nDue due = new Due(\"ReadmeTest\");\n" + held
                + "due.end();\n}\n}\n";
    }
}
