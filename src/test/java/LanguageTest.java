import java.io.IOException;
import java.lang.reflect.Constructor;
import java.lang.reflect.Field;
import java.lang.reflect.Member;
import java.lang.reflect.Method;
import java.lang.reflect.Modifier;
import java.nio.file.Files;
import java.nio.file.Path;
import java.util.Arrays;
import java.util.List;
import java.util.Set;
import java.util.TreeSet;
import java.util.regex.Matcher;
import java.util.regex.Pattern;

/** The rules of LANGUAGE.md that can be looked up in the class and in its text (its path is the first argument). */
public final class LanguageTest {
    private static final String FACE = "feed(5) end(1) beach(0) sea(0) plan(0) fault(1) told(1) wave(2) act(4) chance(1)"
        + " work(1) pass(1) cell(3) flag(2) sum(1) keep(1) take(1) holds(2) high(3) spill(4) trial(4) right(3) humps(2)"
        + " next(0) last(4) pail(3) row(4) again(3) stand(3) outlasts(5) contest(3) which(0) join(6) count(1)";
    private static final String[] BANNED = {"throw", "try", "catch", "finally", "synchronized", "assert", "import static",
        "::", "double", "float", "instanceof", "hashCode", "toString", "Object", "Exception", "random", "nanoTime",
        "currentTimeMillis", "Thread", "volatile", "transient", "native"};
    private static final Set<String> LIBRARY = Set.of("Math.max", "Math.min", "Math.abs", "Arrays.fill",
        "System.arraycopy");

    public static void main(String[] args) throws IOException {
        face();
        classesInside();
        String code = withoutComments(Files.readString(Path.of(args[0])));
        bannedWords(code);
        arrows(code);
        library(code);
        madeInCalls(code);
        methodLengths(code);
        Checks.finish("LanguageTest");
    }

    private static void holds(String rule, boolean holds) {
        Checks.due(rule, holds ? 1 : 0, 1);
    }

    private static boolean isOpen(Member member) {
        return !Modifier.isPrivate(member.getModifiers());
    }

    private static void face() {
        Set<String> open = new TreeSet<>();
        Set<String> hidden = new TreeSet<>();
        for (Method method : TideKeep.class.getDeclaredMethods()) {
            (isOpen(method) ? open : hidden).add(method.getName() + "(" + method.getParameterCount() + ")");
            holds("an open method is public: " + method, !isOpen(method) || Modifier.isPublic(method.getModifiers()));
            holds("at most seven parameters: " + method, method.getParameterCount() <= 7);
        }
        Set<String> face = new TreeSet<>(Arrays.asList(FACE.split(" ")));
        holds("the public methods are the face's: " + open, open.equals(face));
        Set<String> constants = new TreeSet<>();
        for (Field field : TideKeep.class.getDeclaredFields()) {
            if (isOpen(field)) {
                constants.add(field.getName());
            }
        }
        holds("the constants: " + constants, constants.equals(Set.of("NONE", "RANGE", "FULL", "STATE")));
        Constructor<?>[] constructors = TideKeep.class.getDeclaredConstructors();
        holds("one public constructor", constructors.length == 1 && Modifier.isPublic(constructors[0].getModifiers()));
        int own = TideKeep.class.getModifiers();
        holds("public and final", Modifier.isPublic(own) && Modifier.isFinal(own));
        for (String name : hidden) {
            holds("no private method bears a public name: " + name, !names(face).contains(nameOf(name)));
        }
    }

    private static Set<String> names(Set<String> methods) {
        Set<String> names = new TreeSet<>();
        for (String method : methods) {
            names.add(nameOf(method));
        }
        return names;
    }

    private static String nameOf(String method) {
        return method.substring(0, method.indexOf('('));
    }

    private static void classesInside() {
        Class<?>[] inside = TideKeep.class.getDeclaredClasses();
        holds("at most twelve classes", inside.length + 1 <= 12);
        for (Class<?> one : inside) {
            int modifiers = one.getModifiers();
            holds(one + " is static", Modifier.isStatic(modifiers));
            holds(one + " is not public", !Modifier.isPublic(modifiers) && !Modifier.isProtected(modifiers));
            int fields = 0;
            for (Field field : one.getDeclaredFields()) {
                boolean isStatic = Modifier.isStatic(field.getModifiers());
                holds(field + " is final where it is static", !isStatic || Modifier.isFinal(field.getModifiers()));
                fields += isStatic ? 0 : 1;
            }
            holds(one + " has at most twenty fields", fields <= 20);
            for (Method method : one.getDeclaredMethods()) {
                holds("at most seven parameters: " + method, method.getParameterCount() <= 7);
                holds("no public name: " + method, !(" " + FACE).contains(" " + method.getName() + "("));
            }
        }
    }

    private static String withoutComments(String text) {
        return text.replaceAll("(?s)/\\*.*?\\*/", "").replaceAll("//[^\n]*", "").replaceAll("\"[^\"\n]*\"", "\"\"");
    }

    private static void bannedWords(String code) {
        for (String word : BANNED) {
            String pattern = Character.isLetter(word.charAt(0)) ? "\\b" + word + "\\b" : Pattern.quote(word);
            holds("without " + word, !Pattern.compile(pattern).matcher(code).find());
        }
        Matcher matcher = Pattern.compile("import ([\\w.]+);").matcher(code);
        while (matcher.find()) {
            holds("import " + matcher.group(1), List.of("java.util.Arrays", "java.util.ArrayList", "java.util.List")
                .contains(matcher.group(1)));
        }
        for (int i = 0; i < code.length(); i++) {
            holds("plain signs only, at " + i, code.charAt(i) < 128);
        }
    }

    /** An arrow stands behind a case or a default alone: no lambdas. */
    private static void arrows(String code) {
        for (String line : code.split("\n")) {
            holds("no lambda: " + line, !line.contains("->") || line.trim().matches("(case -?\\w+|default) -> .*"));
        }
    }

    private static void library(String code) {
        Matcher matcher = Pattern.compile("\\b(Math|Arrays|System|Integer|Long|String|Character)\\.\\w+").matcher(code);
        while (matcher.find()) {
            holds("library: " + matcher.group(), LIBRARY.contains(matcher.group()));
        }
    }

    /** Rows are made with the object and used again: no method makes an object, but the constructor. */
    private static void madeInCalls(String code) {
        String method = "";
        for (String line : code.split("\n")) {
            if (line.matches(" {4,8}[\\w\\[\\]<> ]+\\(.*\\) \\{")) {
                method = line.trim();
            }
            boolean isField = line.matches(" {4,8}[\\w\\[\\]<> ]+ = new .*;");
            holds("made in " + method + ": " + line, !line.contains(" new ") || isField
                || method.equals("public TideKeep() {"));
        }
    }

    private static void methodLengths(String code) {
        int length = 0;
        for (String line : code.split("\n")) {
            if (line.matches(" {4,8}[\\w\\[\\]<> ]+\\(.*\\) \\{")) {
                length = 0;
            }
            length++;
            if (line.matches(" {4,8}\\}")) {
                holds("a method of " + length + " lines", length <= 60);
                length = 0;
            }
        }
    }
}
