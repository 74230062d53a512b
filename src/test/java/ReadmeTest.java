import java.io.IOException;
import java.lang.reflect.Method;
import java.nio.file.Files;
import java.nio.file.Path;
import java.util.Arrays;
import java.util.regex.Matcher;
import java.util.regex.Pattern;

/** Makes the calls that README.md shows, on one object, and compares what it says that they answer. */
public final class ReadmeTest {
    private static final Due DUE = new Due();
    private static final Pattern BLOCK = Pattern.compile("(?s)```java\n(.*?)```");
    private static final Pattern FED = Pattern.compile("feed\\(x, \"(.*)\"\\);");
    private static final Pattern ASKED = Pattern.compile("x\\.(\\w+)\\((.*)\\); +// ([-\\w]+):.*");

    public static void main(String[] args) throws IOException, ReflectiveOperationException {
        Matcher blocks = BLOCK.matcher(Files.readString(Path.of("README.md")));
        DUE.is("README.md shows how a text is fed", blocks.find(), true);
        String due = plain(Files.readString(Path.of("src/test/java/Due.java")));
        DUE.is("feed is the one of the tests", due.contains(plain(blocks.group(1))), true);
        SealFaces x = new SealFaces();
        int calls = 0;
        while (blocks.find()) {
            for (String line : blocks.group(1).split("\n")) {
                calls += call(x, line) ? 1 : 0;
            }
        }
        DUE.is("README.md shows calls", calls > 30, true);
        DUE.end();
    }

    private static String plain(String source) {
        return source.replaceAll("\\s+", " ");
    }

    /** False if the line asks nothing of the object. */
    private static boolean call(SealFaces x, String line) throws ReflectiveOperationException {
        Matcher fed = FED.matcher(line);
        Matcher asked = ASKED.matcher(line);
        if (fed.matches()) {
            Due.feed(x, fed.group(1));
            return true;
        }
        if (asked.matches()) {
            String answer = String.valueOf(answer(x, asked.group(1), asked.group(2)));
            DUE.is("README.md: " + line.trim(), answer, asked.group(3));
            return true;
        }
        DUE.is("README.md: a line that can be checked: " + line, line.isBlank() || line.equals("SealFaces x = new SealFaces();"), true);
        return false;
    }

    private static Object answer(SealFaces x, String name, String given) throws ReflectiveOperationException {
        Object[] values = Arrays.stream(given.split(", ")).filter(v -> !v.isEmpty()).map(ReadmeTest::value).toArray();
        for (Method m : SealFaces.class.getMethods()) {
            if (m.getName().equals(name) && m.getParameterCount() == values.length) {
                return m.invoke(x, values);
            }
        }
        return "no such call";
    }

    private static Object value(String v) {
        if (v.equals("true") || v.equals("false")) {
            return Boolean.valueOf(v);
        }
        return v.equals("SealFaces.NONE") ? Integer.valueOf(SealFaces.NONE) : Integer.valueOf(v);
    }
}
