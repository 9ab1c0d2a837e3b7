import java.io.IOException;
import java.lang.reflect.Method;
import java.lang.reflect.Modifier;
import java.nio.file.Files;
import java.nio.file.Path;
import java.util.regex.Matcher;
import java.util.regex.Pattern;

/** The calls that README.md shows, made in their order on one object, answer what it says; no call is left out there. */
public final class ReadmeTest {
    private static final Check CHECK = new Check();
    private static final Pattern CALL = Pattern.compile("vote\\.(\\w+)\\((.*)\\);\\s+// ([\\w.-]+)(:.*)?");
    private static final Pattern TOLD = Pattern.compile("tell\\(vote, \"(.*)\"\\);\\s+// ([\\w.-]+)(:.*)?");

    public static void main(String[] args) throws IOException {
        String page = Files.readString(Path.of("README.md"));
        Run run = new Run(CHECK);
        for (String line : page.split("\n")) {
            Matcher call = CALL.matcher(line);
            Matcher told = TOLD.matcher(line);
            if (call.matches()) {
                run.due(answer(call.group(3)), call.group(1), given(call.group(2)));
            } else if (told.matches()) {
                run.feed(told.group(1)).due(answer(told.group(2)), "text", told.group(1).length());
            } else {
                CHECK.due("a call without its answer: " + line, false, line.matches("(vote\\.|tell\\().*"));
            }
        }
        for (Method method : ScaleVote.class.getDeclaredMethods()) {
            if (Modifier.isPublic(method.getModifiers())) {
                CHECK.due(method.getName() + " stands in README.md", true, page.matches("(?s).*[.`]" + method.getName() + "[(`].*"));
            }
        }
        CHECK.end();
    }

    private static Object[] given(String text) {
        if (text.isEmpty()) {
            return new Object[0];
        }
        String[] parts = text.split(", ");
        Object[] given = new Object[parts.length];
        for (int k = 0; k < parts.length; k++) {
            given[k] = parts[k].matches("true|false") ? (Object) Boolean.valueOf(parts[k]) : (Object) number(parts[k]);
        }
        return given;
    }

    private static int number(String text) {
        String[] sides = text.split(" << ");
        int number = Integer.decode(sides[0]);
        return sides.length > 1 ? number << Integer.decode(sides[1]) : number;
    }

    private static long answer(String text) {
        switch (text) {
            case "NONE":
                return ScaleVote.NONE;
            case "Integer.MIN_VALUE":
                return Integer.MIN_VALUE;
            case "Long.MIN_VALUE":
                return Long.MIN_VALUE;
            case "true":
                return 1;
            case "false":
                return 0;
            case "IndexOutOfBoundsException":
                return Run.NO_PERSON;
            case "NoSuchElementException":
                return Run.NO_WHAT;
            default:
                return Long.parseLong(text);
        }
    }
}
