import java.io.IOException;
import java.lang.reflect.Array;
import java.lang.reflect.Constructor;
import java.lang.reflect.Field;
import java.lang.reflect.Method;
import java.lang.reflect.Modifier;
import java.nio.charset.StandardCharsets;
import java.nio.file.Files;
import java.nio.file.Path;
import java.util.ArrayList;
import java.util.List;
import java.util.Set;
import java.util.TreeSet;
import java.util.regex.Matcher;
import java.util.regex.Pattern;

/** What a look at the program can tell of ../shared/LANGUAGE.md, and the room that an object takes. */
public final class LanguageTest {
    private static final Due due = new Due("LanguageTest");
    private static final Path PROGRAM = Path.of("src/main/java/SkyLights.java");
    private static final String FACE = "flyer(int,int,int) feed(long,int) figure() point(int,int,int) spread(int)"
            + " gap(int) zone(int,int,int) pass(int,int,int) goes(int) delay(int,int) clash(int,int) enters(int)"
            + " clean() part() scene(int,int,int,int) stands(int,int) lands(int) length() left(int) last()"
            + " margin(int) colour(int) unclean() fails(int,int,int) cut() mark(int,int,int,int,int) first()"
            + " who(int) wipe() count(int)";

    public static void main(String[] args) throws Exception {
        String text = Files.readString(PROGRAM, StandardCharsets.ISO_8859_1);
        constants();
        face();
        classes();
        signs(text);
        words(withoutComments(text));
        methods(withoutComments(text));
        room();
        due.end();
    }

    private static void constants() {
        due.is("NONE", SkyLights.NONE, -1);
        due.is("BAD", SkyLights.BAD, -2);
        due.is("STATE", SkyLights.STATE, -3);
        due.is("FULL", SkyLights.FULL, -4);
    }

    private static void face() {
        Set<String> face = new TreeSet<>(List.of(FACE.split(" ")));
        Set<String> shown = new TreeSet<>();
        Set<String> names = new TreeSet<>();
        for (Method method : SkyLights.class.getDeclaredMethods()) {
            if (!Modifier.isPrivate(method.getModifiers())) {
                shown.add(told(method));
                names.add(method.getName());
                holds("public " + method, Modifier.isPublic(method.getModifiers()));
                holds("int " + method, method.getReturnType() == int.class);
                holds("of the object " + method, !Modifier.isStatic(method.getModifiers()));
            }
        }
        holds("the methods " + shown, shown.equals(face));
        for (Class<?> some : all()) {
            for (Method method : some.getDeclaredMethods()) {
                boolean hidden = Modifier.isPrivate(method.getModifiers());
                holds("a name of the face: " + method, !hidden || !names.contains(method.getName()));
            }
        }
        for (Field field : SkyLights.class.getDeclaredFields()) {
            boolean told = Set.of("NONE", "BAD", "STATE", "FULL").contains(field.getName());
            holds("private " + field, told == !Modifier.isPrivate(field.getModifiers()));
        }
        Constructor<?>[] constructors = SkyLights.class.getDeclaredConstructors();
        due.is("constructors", constructors.length, 1);
        due.is("its parameters", constructors[0].getParameterCount(), 0);
        holds("public constructor", Modifier.isPublic(constructors[0].getModifiers()));
        holds("public final class", Modifier.toString(SkyLights.class.getModifiers()).equals("public final"));
    }

    private static String told(Method method) {
        StringBuilder told = new StringBuilder(method.getName()).append('(');
        for (Class<?> type : method.getParameterTypes()) {
            told.append(told.charAt(told.length() - 1) == '(' ? "" : ",").append(type.getName());
        }
        return told.append(')').toString();
    }

    private static List<Class<?>> all() {
        List<Class<?>> all = new ArrayList<>(List.of(SkyLights.class.getDeclaredClasses()));
        all.add(SkyLights.class);
        return all;
    }

    private static void classes() {
        holds("some twelve classes", all().size() <= 14);
        for (Class<?> some : all()) {
            int fields = 0;
            for (Field field : some.getDeclaredFields()) {
                boolean fixed = Modifier.isStatic(field.getModifiers());
                holds("final " + field, !fixed || Modifier.isFinal(field.getModifiers()));
                fields += fixed ? 0 : 1;
            }
            holds("some twenty fields of " + some, fields <= 24);
            boolean inner = some != SkyLights.class;
            holds("static " + some, !inner || Modifier.isStatic(some.getModifiers()));
            boolean shown = Modifier.isPublic(some.getModifiers()) || Modifier.isProtected(some.getModifiers());
            holds("hidden " + some, !inner || !shown);
            for (Method method : some.getDeclaredMethods()) {
                holds("seven parameters " + method, method.getParameterCount() <= 7);
            }
        }
    }

    private static void signs(String text) {
        int others = 0;
        for (int i = 0; i < text.length(); i++) {
            others += text.charAt(i) >= 1 && text.charAt(i) <= 127 ? 0 : 1;
        }
        due.is("signs beyond 127", others, 0);
    }

    private static String withoutComments(String text) {
        return text.replaceAll("(?s)/\\*.*?\\*/", "").replaceAll("//[^\n]*", "");
    }

    /** Words that no part of the language that is left needs; texts in quotes are looked at, too. */
    private static void words(String code) {
        String[] words = {"throw", "throws", "try", "catch", "finally", "synchronized", "assert", "package", "volatile",
            "native", "transient", "addExact", "multiplyExact", "subtractExact", "toIntExact", "negateExact", "Thread",
            "Random", "random", "currentTimeMillis", "nanoTime", "hashCode", "HashMap", "Object", "Exception", "Error",
            "sqrt", "pow", "NaN", "protected"};
        for (String word : words) {
            due.is("word " + word, count(code, "\\b" + word + "\\b"), 0);
        }
        due.is("method references", count(code, "::"), 0);
        due.is("static blocks", count(code, "static\\s*\\{"), 0);
        due.is("public classes", count(code, "public (final )?class"), 1);
        due.is("imports beside the lists", count(code, "(?m)^import (?!java\\.util\\.(ArrayList|List|Arrays|Iterator);)"), 0);
    }

    private static int count(String text, String what) {
        Matcher matcher = Pattern.compile(what).matcher(text);
        int count = 0;
        while (matcher.find()) {
            count++;
        }
        return count;
    }

    private static void methods(String code) {
        Matcher matcher = Pattern.compile("(?m)^( +)[\\w \\[\\]]+\\([^;]*\\) \\{$").matcher(code);
        int methods = 0;
        while (matcher.find()) {
            String end = "\n" + matcher.group(1) + "}\n";
            String body = code.substring(matcher.start(), code.indexOf(end, matcher.start()));
            holds("some sixty lines: " + matcher.group(), body.split("\n").length <= 70);
            methods++;
        }
        holds("methods are found", methods > 30);
    }

    /** A run has room for 600,000 objects and 7.3 million fields and elements. */
    private static void room() throws IllegalAccessException {
        List<Object> found = new ArrayList<>();
        SkyLights lights = new SkyLights();
        found.add(lights);
        int cells = 0;
        for (int i = 0; i < found.size(); i++) {
            cells += cells(found.get(i), found);
        }
        System.out.println("LanguageTest: a new object takes " + found.size() + " objects, " + cells + " cells");
        holds("objects", found.size() <= 5000);
        holds("cells", cells <= 100000);
    }

    private static int cells(Object some, List<Object> found) throws IllegalAccessException {
        if (some.getClass().isArray() && some.getClass().getComponentType().isPrimitive()) {
            return Array.getLength(some);
        }
        if (some instanceof Object[] row) {
            for (Object part : row) {
                add(part, found);
            }
            return row.length;
        }
        int cells = 0;
        if (some.getClass().getNestHost() != SkyLights.class) {
            return cells;
        }
        for (Field field : some.getClass().getDeclaredFields()) {
            if (!Modifier.isStatic(field.getModifiers())) {
                cells++;
                field.setAccessible(true);
                if (!field.getType().isPrimitive()) {
                    add(field.get(some), found);
                }
            }
        }
        return cells;
    }

    private static void add(Object part, List<Object> found) {
        for (Object other : found) {
            if (other == part) {
                return;
            }
        }
        if (part != null) {
            found.add(part);
        }
    }

    private static void holds(String what, boolean holds) {
        due.is(what, holds ? 1 : 0, 1);
    }
}
