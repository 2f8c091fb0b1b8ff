import java.lang.reflect.InvocationTargetException;
import java.lang.reflect.Method;
import java.nio.file.Files;
import java.nio.file.Path;
import java.util.ArrayList;
import java.util.List;
import java.util.regex.Matcher;
import java.util.regex.Pattern;

/** The calls that README.md shows answer what it says behind them; what it feeds with is what the tests feed with. */
public final class ReadmeTest {
    private static final Pattern CALL = Pattern.compile("head\\.(\\w+)\\((.*)\\); *// (true|false|-?[0-9]+)\\b.*");
    private static final Pattern FEED = Pattern.compile("feed\\(head, \"(.*)\"\\);");
    private static final String FIRST = "HeadRows head = new HeadRows();";

    public static void main(String[] args) throws Exception {
        List<String> blocks = blocks(Files.readString(Path.of("README.md")));
        Check.due("blocks of Java", blocks.size(), 2);
        example(blocks.get(0));
        for (String helper : blocks.get(1).split("\n\n")) {
            Check.due("stands in Check: " + helper, helpers().contains(plain(helper)), true);
        }
        Check.end("ReadmeTest");
    }

    private static String helpers() throws Exception {
        return plain(Files.readString(Path.of("src/test/java/help/Check.java")));
    }

    private static String plain(String text) {
        return text.replaceAll("\\s+", " ");
    }

    private static List<String> blocks(String page) {
        List<String> blocks = new ArrayList<>();
        Matcher block = Pattern.compile("```java\n(.*?)```", Pattern.DOTALL).matcher(page);
        while (block.find()) {
            blocks.add(block.group(1));
        }
        return blocks;
    }

    private static void example(String block) throws Exception {
        HeadRows head = new HeadRows();
        String[] lines = block.split("\n");
        Check.due("begins with a new object", lines[0].equals(FIRST), true);
        for (int n = 1; n < lines.length; n++) {
            Matcher call = CALL.matcher(lines[n]);
            Matcher feed = FEED.matcher(lines[n]);
            if (feed.matches()) {
                Check.feed(head, feed.group(1));
            } else if (call.matches()) {
                String answer = answer(head, call.group(1), call.group(2));
                Check.due(lines[n] + " answers " + answer, answer.equals(call.group(3)), true);
            } else {
                Check.due("a call with its answer: " + lines[n], false, true);
            }
        }
    }

    private static String answer(HeadRows head, String name, String given)
            throws IllegalAccessException, InvocationTargetException {
        String[] texts = given.isEmpty() ? new String[0] : given.split(", ");
        Object[] arguments = new Object[texts.length];
        for (int n = 0; n < texts.length; n++) {
            arguments[n] = texts[n].equals("HeadRows.NONE") ? HeadRows.NONE : Integer.parseInt(texts[n]);
        }
        for (Method method : HeadRows.class.getMethods()) {
            if (method.getName().equals(name)) {
                return method.invoke(head, arguments).toString();
            }
        }
        return "no such call";
    }
}
