import java.lang.reflect.Field;
import java.lang.reflect.Member;
import java.lang.reflect.Method;
import java.lang.reflect.Modifier;
import java.nio.file.Files;
import java.nio.file.Path;
import java.util.ArrayList;
import java.util.Arrays;
import java.util.List;
import java.util.Set;
import java.util.TreeSet;
import java.util.regex.Matcher;
import java.util.regex.Pattern;
import java.util.stream.Collectors;
import java.util.stream.Stream;

/** The rules of ../shared/LANGUAGE.md, as far as the class and its text show them. */
public final class LanguageTest {
    private static final Check CHECK = new Check();

    private static final String FACE = "DimShelf() NONE ask() back(int) cell(int,int,int,int) count(int) "
        + "feed(int,int,int,int,int) holds(int,int,int) learn() many(int,int) maybe(int,int,int) often(int,int) place() "
        + "read() same(int,int) size(int,int) sure(int,int,int) table(int,int) term(int,int,int,int) undo() "
        + "value(int,int) why(int)";
    private static final Set<String> LIBRARY = Set.of("Math.min", "Math.max", "Integer.bitCount", "Arrays.fill",
        "Arrays.copyOf", "System.arraycopy");
    private static final int MOST_LINES = 60;
    private static final int MOST_PARAMETERS = 7;
    private static final int MOST_FIELDS = 20;
    private static final int MOST_CLASSES = 12;

    public static void main(String[] args) throws Exception {
        List<Class<?>> classes = new ArrayList<>(List.of(DimShelf.class));
        classes.addAll(Arrays.asList(DimShelf.class.getDeclaredClasses()));
        String code = code();
        face();
        CHECK.due("classes: " + classes.size(), classes.size() <= MOST_CLASSES, true);
        for (Class<?> one : classes) {
            members(one);
            fields(one);
        }
        words(code);
        library(code);
        lines(code);
        CHECK.finish("LanguageTest");
    }

    private static void none(String what, Set<String> found) {
        CHECK.due(what + " " + found, found.size(), 0);
    }

    private static String name(Class<?> of, String member, Class<?>[] parameters) {
        return member + Stream.of(parameters).map(Class::getSimpleName).collect(Collectors.joining(",", "(", ")"));
    }

    /** 1: the face of the document, and no other member that is seen from without. */
    private static void face() {
        Set<String> seen = new TreeSet<>();
        Stream.of(DimShelf.class.getDeclaredConstructors()).filter(one -> !isPrivate(one))
            .forEach(one -> seen.add(name(DimShelf.class, "DimShelf", one.getParameterTypes())));
        Stream.of(DimShelf.class.getDeclaredFields()).filter(one -> !isPrivate(one)).forEach(one -> seen.add(one.getName()));
        Stream.of(DimShelf.class.getDeclaredMethods()).filter(one -> !isPrivate(one))
            .forEach(one -> seen.add(name(DimShelf.class, one.getName(), one.getParameterTypes())));
        String face = String.join(" ", seen);
        CHECK.due("the face: " + face, face.equals(FACE), true);
        CHECK.due("public and final", Modifier.toString(DimShelf.class.getModifiers()).equals("public final"), true);
    }

    private static boolean isPrivate(Member member) {
        return Modifier.isPrivate(member.getModifiers());
    }

    /** 1: no private method bears the name of a public one; 2: static classes inside; 11: parameters. */
    private static void members(Class<?> one) {
        boolean inside = one != DimShelf.class;
        CHECK.due(one.getName() + " is static", inside, Modifier.isStatic(one.getModifiers()));
        CHECK.due(one.getName() + " has no classes inside", one.getDeclaredClasses().length == 0, inside);
        for (Method method : one.getDeclaredMethods()) {
            String name = one.getSimpleName() + "." + method.getName();
            CHECK.due(name + " bears no public name", FACE.contains(" " + method.getName() + "("), !inside && !isPrivate(method));
            CHECK.due(name + " has few parameters", method.getParameterCount() <= MOST_PARAMETERS, true);
            CHECK.due(name + " is none of a lambda", method.isSynthetic(), false);
        }
    }

    /** 5: static fields are final, of plain sorts; 11: fields beside the constants. */
    private static void fields(Class<?> one) {
        Set<Class<?>> plain = Set.of(int.class, long.class, boolean.class, char.class, String.class, int[].class,
            long[].class, char[].class, byte[].class);
        int own = 0;
        for (Field field : one.getDeclaredFields()) {
            if (Modifier.isStatic(field.getModifiers())) {
                String name = one.getSimpleName() + "." + field.getName();
                CHECK.due(name + " is final", Modifier.isFinal(field.getModifiers()), true);
                CHECK.due(name + " is plain", plain.contains(field.getType()), true);
            } else {
                own++;
            }
        }
        CHECK.due(one.getSimpleName() + " has " + own + " fields", own <= MOST_FIELDS, true);
    }

    /** The class without its comments; signs and texts in quotes are empty. */
    private static String code() throws Exception {
        String text = Files.readString(Path.of("src/main/java/DimShelf.java"));
        return text.replaceAll("(?s)/\\*.*?\\*/", "").replaceAll("//[^\n]*", "").replaceAll("'\\\\?.'", "''")
            .replaceAll("\"[^\"\n]*\"", "\"\"");
    }

    private static Set<String> found(String code, String pattern) {
        Set<String> found = new TreeSet<>();
        Matcher matcher = Pattern.compile(pattern).matcher(code);
        while (matcher.find()) {
            found.add(matcher.group());
        }
        return found;
    }

    /** 2 and 6: what the language leaves out. */
    private static void words(String code) {
        none("words that it may not have:", found(code, "\\b(throw|throws|try|catch|finally|synchronized|assert"
            + "|package|volatile|native|protected)\\b"));
        none("lambdas and references:", found(code, "->|::|@"));
        none("objects' own methods:", found(code, "\\.(equals|hashCode|toString|getClass)\\("));
        none("static initialisers:", found(code, "static \\{"));
        Set<String> imports = found(code, "import [^;]*;");
        imports.remove("import java.util.Arrays;");
        none("imports:", imports);
    }

    /** 4: of the library only what it may use. */
    private static void library(String code) {
        Set<String> calls = found(code, "\\b(Math|Integer|Long|Arrays|System|String|StringBuilder|List|ArrayList)\\b(\\.\\w+)?");
        calls.remove("Arrays");
        calls.removeAll(LIBRARY);
        none("calls of the library:", calls);
        Set<String> sorts = found(code, "\\b[A-Z]\\w*[a-z]\\w*\\b");
        sorts.removeAll(Set.of("Math", "Integer", "Arrays", "System", "DimShelf"));
        for (Class<?> one : DimShelf.class.getDeclaredClasses()) {
            sorts.remove(one.getSimpleName());
        }
        none("sorts of objects:", sorts);
    }

    /** 11: methods stay short. */
    private static void lines(String code) {
        String[] lines = code.split("\n");
        Pattern head = Pattern.compile(" {4}( {4})?[a-zA-Z].*\\) \\{");
        for (int i = 0; i < lines.length; i++) {
            if (head.matcher(lines[i]).matches()) {
                String close = lines[i].substring(0, lines[i].length() - lines[i].stripLeading().length()) + "}";
                int end = i;
                while (end < lines.length && !lines[end].equals(close)) {
                    end++;
                }
                CHECK.due(lines[i].strip() + " has " + (end - i + 1) + " lines", end - i < MOST_LINES, true);
            }
        }
    }
}
