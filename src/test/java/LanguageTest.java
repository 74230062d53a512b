import java.io.IOException;
import java.lang.reflect.Constructor;
import java.lang.reflect.Field;
import java.lang.reflect.Method;
import java.lang.reflect.Modifier;
import java.nio.file.Files;
import java.nio.file.Path;
import java.util.Arrays;
import java.util.Set;
import java.util.TreeSet;
import java.util.regex.Matcher;
import java.util.regex.Pattern;

/** What can be seen of the rules of LANGUAGE.md: the face, words that are ruled out, sizes. */
public final class LanguageTest {
    private static final Due DUE = new Due();
    private static final Set<String> LIBRARY = Set.of("Integer.bitCount", "Math.abs", "Math.floorDiv", "Math.max", "Math.min",
        "System.arraycopy", "Arrays.fill");
    private static final String FACE = """
        int feed(int,int,int,int,int)
        int back(int)
        int read()
        int place()
        int clerk(int,int)
        int deed(int,int)
        int treaty(int,int)
        int takes(int,int,int)
        boolean seal(int,int)
        boolean forge(int)
        boolean burn(int)
        int years(int)
        boolean undo()
        int all(int)
        int fewest(int)
        int match(int)
        int greatest(int)
        int weakest(int)
        int hands(int)
        int work(int)
        int game(int)
        int breaks(int)
        int lent(int,int)
        int apart(int,int)
        int like(int)
        int twins(int,int)
        int heals(int)
        int blank(int)
        int barest(int)
        int reads(int)
        int levelIn(int,int,int)
        int printIn(int,int,int)
        int bindsIn(int)
        int year(int,int)
        int tell(int,int,boolean)
        int forget()
        int who(int,int,int)
        int look(int,int,int)
        boolean hold(int)
        boolean restore(int)
        int count(int)
        """;

    public static void main(String[] args) throws IOException {
        face();
        inside();
        String source = Files.readString(Path.of("src/main/java/SealFaces.java"));
        source(source);
        library(withoutTexts(source));
        methods(source);
        DUE.end();
    }

    private static void face() {
        Class<?> c = SealFaces.class;
        DUE.is("public and final", Modifier.isPublic(c.getModifiers()) && Modifier.isFinal(c.getModifiers()), true);
        Set<String> shown = new TreeSet<>();
        Set<String> names = new TreeSet<>();
        for (Method m : c.getDeclaredMethods()) {
            if (!Modifier.isPrivate(m.getModifiers())) {
                String types = String.join(",", Arrays.stream(m.getParameterTypes()).map(Class::getName).toList());
                shown.add(m.getReturnType() + " " + m.getName() + "(" + types + ")");
                names.add(m.getName());
                DUE.is(m + " is public", Modifier.isPublic(m.getModifiers()), true);
            }
        }
        DUE.is("the face's methods", shown.equals(new TreeSet<>(Arrays.asList(FACE.split("\n")))), true);
        DUE.is("the face's count", shown.size(), 41);
        for (Method m : c.getDeclaredMethods()) {
            DUE.is(m + ": no private one of a public name", Modifier.isPrivate(m.getModifiers()) && names.contains(m.getName()), false);
        }
        for (Field f : c.getDeclaredFields()) {
            DUE.is(f + " is private, but for NONE", Modifier.isPrivate(f.getModifiers()), !f.getName().equals("NONE"));
        }
        for (Constructor<?> k : c.getDeclaredConstructors()) {
            DUE.is(k + " is public and bare", Modifier.isPublic(k.getModifiers()) && k.getParameterCount() == 0, true);
        }
    }

    private static void inside() {
        Class<?>[] classes = SealFaces.class.getDeclaredClasses();
        DUE.is("some twelve classes", classes.length <= 12, true);
        for (Class<?> c : classes) {
            DUE.is(c + " is static", Modifier.isStatic(c.getModifiers()), true);
            DUE.is(c + " is hidden", Modifier.isPublic(c.getModifiers()) || Modifier.isProtected(c.getModifiers()), false);
            sizes(c);
        }
        sizes(SealFaces.class);
    }

    private static void sizes(Class<?> c) {
        long fields = Arrays.stream(c.getDeclaredFields()).filter(f -> !Modifier.isStatic(f.getModifiers())).count();
        DUE.is(c + " has at most 20 fields", fields <= 20, true);
        for (Field f : c.getDeclaredFields()) {
            boolean bad = Modifier.isStatic(f.getModifiers()) && !Modifier.isFinal(f.getModifiers());
            DUE.is(f + " is no static state", bad, false);
        }
        for (Method m : c.getDeclaredMethods()) {
            DUE.is(m + " takes at most 7", m.getParameterCount() <= 7, true);
        }
    }

    private static String withoutTexts(String source) {
        return source.replaceAll("(?s)/\\*.*?\\*/", "").replaceAll("//[^\n]*", "").replaceAll("\"[^\"\n]*\"", "\"\"");
    }

    private static void source(String s) {
        String bare = withoutTexts(s);
        for (String word : new String[] {"throw", "throws", "try", "catch", "synchronized", "assert", "volatile",
            "Object", "\\w+Exact", "hashCode", "toString", "package", "static\\s*\\{"}) {
            DUE.is("there is no " + word, Pattern.compile("\\b" + word + (word.matches("\\w+") ? "\\b" : "")).matcher(bare).find(), false);
        }
        for (String signs : new String[] {"->", "::", "@"}) {
            DUE.is("there is no " + signs, bare.contains(signs), false);
        }
        Matcher imports = Pattern.compile("import ([^;]*);").matcher(bare);
        while (imports.find()) {
            DUE.is("import " + imports.group(1), Set.of("java.util.Arrays", "java.util.ArrayList", "java.util.List").contains(imports.group(1)), true);
        }
        DUE.is("signs of 7 bits", s.chars().allMatch(c -> c < 128), true);
    }

    /** Rule 4 lists functions, so a constant such as the least int is outside too. */
    private static void library(String bare) {
        Matcher used = Pattern.compile("\\b(Integer|Long|Math|Arrays|System|String|Character|Boolean)\\.(\\w+)(\\(?)").matcher(bare);
        while (used.find()) {
            String name = used.group(1) + "." + used.group(2);
            DUE.is("rule 4 has " + name, LIBRARY.contains(name) && used.group(3).equals("("), true);
        }
    }

    private static void methods(String s) {
        int start = 0;
        String[] lines = s.split("\n");
        for (int i = 0; i < lines.length; i++) {
            if (lines[i].matches(" {4}( {4})?[a-z].*\\) \\{")) {
                start = i;
            } else if (lines[i].matches(" {4}( {4})?\\}") && !lines[start].contains("class")) {
                DUE.is("some sixty lines: " + lines[start].trim(), i - start <= 60, true);
                indices(withoutTexts(String.join("\n", Arrays.copyOfRange(lines, start, i + 1))));
            }
        }
    }

    /** Rule 7: a name that is used as an index was looked at in the same method, at both ends. */
    private static void indices(String method) {
        String first = method.lines().findFirst().orElse("").trim();
        Matcher used = Pattern.compile("\\w+\\[(?:[A-Z_]+ \\+ )?([a-z]\\w*)(?: - (\\d))?\\]").matcher(method);
        while (used.find()) {
            String ahead = method.substring(0, used.start());
            String name = "\\b" + used.group(1);
            int taken = used.group(2) == null ? 0 : Integer.parseInt(used.group(2));
            String least = "[" + taken + "-9]\\b";
            boolean low = Pattern.compile(name + " >= " + least + "|" + name + " < " + least + "|" + name + " = " + least).matcher(ahead).find()
                || taken == 1 && Pattern.compile(name + " > 0\\b").matcher(ahead).find();
            boolean high = Pattern.compile(name + " (<|<=|>=|>) [A-Za-z_]").matcher(ahead).find();
            DUE.is("looked at from 0 on: " + used.group() + " in " + first, low, true);
            DUE.is("looked at up to the end: " + used.group() + " in " + first, high, true);
        }
    }
}
