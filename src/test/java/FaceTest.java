import java.io.IOException;
import java.lang.reflect.Constructor;
import java.lang.reflect.Field;
import java.lang.reflect.Method;
import java.lang.reflect.Modifier;
import java.nio.charset.StandardCharsets;
import java.nio.file.Files;
import java.nio.file.Path;
import java.util.ArrayList;
import java.util.Arrays;
import java.util.List;
import java.util.Set;
import java.util.TreeSet;
import java.util.regex.Matcher;
import java.util.regex.Pattern;

/** The document's face, and those rules of LANGUAGE.md that can be seen in the class or its source. */
public final class FaceTest {
    private static final Check CHECK = new Check();
    private static final Path SOURCE = Path.of("src/main/java/MayMust.java");
    private static final Set<String> METHODS = Set.of("type(long,int)", "clear()", "plan(int)", "say()", "states(int,int)",
        "arrow(int,int,int,int)", "put(int,int,int,int,int)", "stricter(int,int,int)", "stays(int,int,int,int)", "alike(int,int)",
        "make(int,int,int)", "join(int,int,int,int)", "value(int,int)", "how(int,int)", "begin(int)", "go(int)", "walk(int)", "count(int)");

    public static void main(String[] args) throws IOException {
        face();
        members();
        source();
        CHECK.end();
    }

    private static void face() {
        Class<?> c = MayMust.class;
        CHECK.that("public and final", Modifier.isPublic(c.getModifiers()) && Modifier.isFinal(c.getModifiers()));
        Set<String> open = new TreeSet<>();
        for (Method m : c.getDeclaredMethods()) {
            if (!Modifier.isPrivate(m.getModifiers())) {
                String parameters = String.join(",", Arrays.stream(m.getParameterTypes()).map(Class::getName).toList());
                open.add(m.getName() + "(" + parameters + ")");
                CHECK.that(m + " is public and answers int",
                    m.getModifiers() == Modifier.PUBLIC && m.getReturnType() == int.class && m.getExceptionTypes().length == 0);
            }
        }
        CHECK.that("the methods are " + open, open.equals(METHODS));
        Constructor<?>[] made = c.getDeclaredConstructors();
        CHECK.that("one constructor", made.length == 1 && made[0].getParameterCount() == 0 && Modifier.isPublic(made[0].getModifiers()));
        Set<String> constants = new TreeSet<>();
        for (Field f : c.getDeclaredFields()) {
            if (!Modifier.isPrivate(f.getModifiers())) {
                constants.add(f.getName());
                CHECK.that(f + " is a constant", f.getModifiers() == (Modifier.PUBLIC | Modifier.STATIC | Modifier.FINAL));
            }
        }
        CHECK.that("the constants are " + constants, constants.equals(Set.of("BAD", "STATE", "FULL", "NONE")));
        CHECK.due("BAD", -1, MayMust.BAD);
        CHECK.due("STATE", -2, MayMust.STATE);
        CHECK.due("FULL", -3, MayMust.FULL);
        CHECK.due("NONE", -9, MayMust.NONE);
    }

    private static void members() {
        List<Class<?>> all = new ArrayList<>(List.of(MayMust.class));
        all.addAll(List.of(MayMust.class.getDeclaredClasses()));
        CHECK.that("at most twelve classes", all.size() <= 12);
        Set<String> names = new TreeSet<>();
        METHODS.forEach(m -> names.add(m.substring(0, m.indexOf('('))));
        for (Class<?> c : all) {
            CHECK.that(c + " has no classes of its own", c == MayMust.class || c.getDeclaredClasses().length == 0);
            CHECK.that(c + " is static", c == MayMust.class || Modifier.isStatic(c.getModifiers()));
            CHECK.that(c + " is not open", c == MayMust.class || !Modifier.isPublic(c.getModifiers()) && !Modifier.isProtected(c.getModifiers()));
            int fields = 0;
            for (Field f : c.getDeclaredFields()) {
                fields += Modifier.isStatic(f.getModifiers()) ? 0 : 1;
                CHECK.that(f + " is final, if static", !Modifier.isStatic(f.getModifiers()) || Modifier.isFinal(f.getModifiers()));
            }
            CHECK.that(c + " has at most twenty fields", fields <= 20);
            for (Method m : c.getDeclaredMethods()) {
                CHECK.that(m + " takes at most seven", m.getParameterCount() <= 7);
                CHECK.that(m + " has a name of its own",
                    c == MayMust.class && Modifier.isPublic(m.getModifiers()) || !names.contains(m.getName()));
            }
        }
    }

    private static void source() throws IOException {
        String text = Files.readString(SOURCE, StandardCharsets.ISO_8859_1);
        for (int k = 0; k < text.length(); k++) {
            char sign = text.charAt(k);
            if (sign != '\n' && (sign < 32 || sign > 126)) {
                CHECK.that("a plain sign at " + k, false);
            }
        }
        String code = text.replaceAll("(?s)/\\*.*?\\*/", " ").replaceAll("//[^\n]*", " ").replaceAll("\"[^\"\n]*\"", "\"\"");
        for (String word : "throw throws try catch finally synchronized assert package protected volatile transient native strictfp var instanceof Object"
            .split(" ")) {
            CHECK.that("no " + word, !Pattern.compile("\\b" + word + "\\b").matcher(code).find());
        }
        for (String sign : new String[] {"->", "::", "Exact(", "@", "...", "\"\" +", "+ \"\""}) {
            CHECK.that("no " + sign, !code.contains(sign));
        }
        imports(code);
        made(text);
        lengths(text);
    }

    private static void imports(String code) {
        Matcher m = Pattern.compile("import ([^;]+);").matcher(code);
        while (m.find()) {
            CHECK.that("import of " + m.group(1), m.group(1).equals("java.util.Arrays"));
        }
    }

    /** Objects are made in the constructor and in fields alone, so that no call makes any. */
    private static void made(String text) {
        int from = text.indexOf("public MayMust()");
        int end = text.indexOf("\n    }\n", from);
        String rest = text.substring(0, from) + text.substring(end);
        for (String line : rest.split("\n")) {
            CHECK.that("made in a call: " + line, !line.matches(".*\\bnew [A-Za-z]+[\\[(<].*") || line.strip().startsWith("private final "));
        }
    }

    private static void lengths(String text) {
        String[] lines = text.split("\n");
        int begun = -1;
        for (int k = 0; k < lines.length; k++) {
            if (lines[k].matches("    (    )?[A-Za-z].*\\) \\{")) {
                begun = k;
            }
            if (lines[k].matches("    (    )?\\}") && begun >= 0) {
                CHECK.that("short: " + lines[begun], k - begun <= 60);
                begun = -1;
            }
        }
    }
}
