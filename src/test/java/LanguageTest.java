import java.io.IOException;
import java.lang.reflect.Constructor;
import java.lang.reflect.Field;
import java.lang.reflect.Method;
import java.lang.reflect.Modifier;
import java.nio.file.Files;
import java.nio.file.Path;
import java.util.Arrays;
import java.util.Set;
import java.util.TreeSet;
import java.util.regex.Matcher;
import java.util.regex.Pattern;
import java.util.stream.Collectors;

/** The face of the document, and those rules of LANGUAGE.md that a text or a class can be asked for. */
public final class LanguageTest {
    private static final String[] FACE = {
        "int type(int)", "int clear()", "int court()", "int suspect(int,int)", "int fact(int,int)",
        "int moves(int,int)", "int alibi(int,int)", "int find(int,int)", "int hear(int,int)", "int days(int)",
        "int undo()", "int share(int,int)", "int now(int)", "int proof(int,int,int,int)",
        "int cleared(int,int,int,int)", "int forged(int,int,int)", "int clash(int)", "int rests(int)",
        "int gains(int)", "int cellsFor(int)", "int sits(int,int,int)", "int wronged(int)", "int book(int,int)",
        "int burn()", "int books(int)", "int innocent(int)", "int mark(int,int)", "int keep(int)", "int back(int)",
        "int count(int)", "long trace()"};
    private static final String[] FORBIDDEN = {
        "\\bthrow\\b", "\\bthrows\\b", "\\btry\\b", "\\bcatch\\b", "\\bsynchronized\\b", "\\bassert\\b", "->", "::",
        "\\bpackage\\b", "\\bimport\\b", "\\bvar\\b", "@", "\\bjava\\.", "\\bprotected\\b", "Exact\\b",
        "\\bhashCode\\b", "\\btoString\\b"};
    private static final Set<String> LIBRARY = Set.of("Math", "Integer", "System");

    public static void main(String[] args) throws IOException {
        constants();
        face();
        otherMembersArePrivate();
        noNameTwice();
        fieldsAndParameters();
        source(Files.readString(Path.of("src/main/java/FifthsOfGuilt.java")));
        Due.end();
    }

    private static void holds(String what, boolean is) {
        Due.is(what, is ? 1 : 0, 1);
    }

    private static void constants() {
        Due.is("BAD", FifthsOfGuilt.BAD, -1);
        Due.is("STATE", FifthsOfGuilt.STATE, -2);
        Due.is("FULL", FifthsOfGuilt.FULL, -3);
        Due.is("NONE", FifthsOfGuilt.NONE, -9);
        Due.is("NO", FifthsOfGuilt.NO, -1000000);
    }

    private static String signature(Method m) {
        return m.getReturnType() + " " + m.getName() + Arrays.stream(m.getParameterTypes()).map(Class::getName)
            .collect(Collectors.joining(",", "(", ")"));
    }

    private static void face() {
        holds("public", Modifier.isPublic(FifthsOfGuilt.class.getModifiers()));
        holds("final", Modifier.isFinal(FifthsOfGuilt.class.getModifiers()));
        Constructor<?>[] made = FifthsOfGuilt.class.getDeclaredConstructors();
        holds("one public constructor", made.length == 1 && Modifier.isPublic(made[0].getModifiers())
            && made[0].getParameterCount() == 0);
        Set<String> has = new TreeSet<>();
        for (Method m : FifthsOfGuilt.class.getDeclaredMethods()) {
            if (Modifier.isPublic(m.getModifiers())) {
                has.add(signature(m));
                holds(m.getName() + " is no static method", !Modifier.isStatic(m.getModifiers()));
            }
        }
        Set<String> due = new TreeSet<>(Arrays.asList(FACE));
        holds("the face is " + due + ", not " + has, has.equals(due));
    }

    private static void otherMembersArePrivate() {
        Set<String> constants = Set.of("BAD", "STATE", "FULL", "NONE", "NO");
        for (Field f : FifthsOfGuilt.class.getDeclaredFields()) {
            holds("field " + f.getName(), Modifier.isPrivate(f.getModifiers()) != constants.contains(f.getName()));
        }
        for (Method m : FifthsOfGuilt.class.getDeclaredMethods()) {
            holds(m.getName(), Modifier.isPrivate(m.getModifiers()) || Modifier.isPublic(m.getModifiers()));
        }
    }

    private static void noNameTwice() {
        Set<String> names = Arrays.stream(FACE).map(f -> f.replaceAll(".* (\\w+)\\(.*", "$1"))
            .collect(Collectors.toSet());
        for (Class<?> inside : FifthsOfGuilt.class.getDeclaredClasses()) {
            holds(inside + " is static", Modifier.isStatic(inside.getModifiers()));
            for (Method m : inside.getDeclaredMethods()) {
                holds(inside + " has " + m.getName(), !names.contains(m.getName()));
            }
        }
        for (Method m : FifthsOfGuilt.class.getDeclaredMethods()) {
            holds("private " + m.getName(), Modifier.isPublic(m.getModifiers()) || !names.contains(m.getName()));
        }
        holds("twelve classes at most", FifthsOfGuilt.class.getDeclaredClasses().length < 12);
    }

    private static void fieldsAndParameters() {
        Set<Class<?>> all = new java.util.HashSet<>(Arrays.asList(FifthsOfGuilt.class.getDeclaredClasses()));
        all.add(FifthsOfGuilt.class);
        for (Class<?> c : all) {
            int fields = 0;
            for (Field f : c.getDeclaredFields()) {
                boolean fixed = Modifier.isStatic(f.getModifiers());
                holds(f + " is final", !fixed || Modifier.isFinal(f.getModifiers()));
                fields += fixed ? 0 : 1;
            }
            holds(c + " has few fields", fields <= 20);
            for (Method m : c.getDeclaredMethods()) {
                holds(m + " has few parameters", m.getParameterCount() <= 7);
            }
        }
    }

    private static String withoutComments(String source) {
        return source.replaceAll("(?s)/\\*.*?\\*/", " ").replaceAll("//[^\\n]*", " ");
    }

    private static void source(String whole) {
        holds("signs 1 to 127 alone", whole.chars().allMatch(c -> c > 0 && c < 128));
        String source = withoutComments(whole);
        for (String word : FORBIDDEN) {
            holds("without " + word, !Pattern.compile(word).matcher(source).find());
        }
        Set<String> own = Arrays.stream(FifthsOfGuilt.class.getDeclaredClasses()).map(Class::getSimpleName)
            .collect(Collectors.toSet());
        Matcher type = Pattern.compile("\\b[A-Z][a-z]\\w*").matcher(source);
        while (type.find()) {
            String name = type.group();
            holds(name + " may be used", own.contains(name) || LIBRARY.contains(name) || name.equals("FifthsOfGuilt"));
        }
        shortMethods(whole);
    }

    private static void shortMethods(String whole) {
        int begun = -1;
        String[] rows = whole.split("\n");
        for (int i = 0; i < rows.length; i++) {
            if (rows[i].matches(" {4}(?: {4})?\\w.*\\) \\{")) {
                begun = i;
            } else if (rows[i].matches(" {4}(?: {4})?\\}") && begun >= 0) {
                holds("short: " + rows[begun].trim(), i - begun <= 60);
            }
        }
    }
}
