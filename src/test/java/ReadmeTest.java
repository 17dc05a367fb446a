import java.io.IOException;
import java.lang.reflect.Method;
import java.lang.reflect.Modifier;
import java.nio.file.Files;
import java.nio.file.Path;
import java.util.regex.Matcher;
import java.util.regex.Pattern;

/** README.md: its example answers what it says, and it speaks of every call. */
public final class ReadmeTest {
    private static final Pattern CALL = Pattern.compile("x\\.(\\w+)\\((.*)\\); +// (\\S+):.*");

    public static void main(String[] args) throws IOException {
        String text = Files.readString(Path.of("README.md"));
        Sentence.holds("README.md", rowsOf(exampleIn(text)));
        for (Method method : TrainGuard.class.getDeclaredMethods()) {
            if (Modifier.isPublic(method.getModifiers())) {
                Check.dueText("README.md speaks of " + method.getName(),
                        "" + text.contains("`" + method.getName() + "("), "true");
            }
        }
        Check.finish();
    }

    private static String exampleIn(String text) {
        String fence = "```";
        int begin = text.indexOf(fence + "java\n");
        return text.substring(begin, text.indexOf(fence, begin + fence.length()));
    }

    private static String rowsOf(String example) {
        StringBuilder rows = new StringBuilder();
        for (String line : example.split("\n")) {
            Matcher call = CALL.matcher(line);
            if (call.matches()) {
                rows.append(call.group(1)).append(' ').append(call.group(2).replace(", ", " "));
                rows.append(" = ").append(call.group(3)).append('\n');
            } else {
                Check.dueText("README.md, " + line, "" + line.startsWith("x."), "false");
            }
        }
        Check.dueText("README.md has no call in its example", "" + rows.isEmpty(), "false");
        return rows.toString();
    }
}
