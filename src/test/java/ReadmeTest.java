import java.io.IOException;
import java.lang.reflect.Method;
import java.lang.reflect.Modifier;
import java.nio.file.Files;
import java.nio.file.Path;
import java.util.List;
import java.util.concurrent.Callable;

/** What README.md says of the class is so: its example, call after call, and the list of the methods. */
public final class ReadmeTest extends Dues {
    private static List<String> readme;
    private static int line = 0;

    /** The answer that the next line of README.md which begins with the call tells behind the two strokes. */
    private static String told(String call) {
        for (int i = line; i < readme.size(); i++) {
            if (readme.get(i).startsWith(call + ";")) {
                line = i + 1;
                String comment = readme.get(i).replaceFirst(".*// ", "");
                return comment.split("[,:; ]")[0];
            }
        }
        return "not in README.md";
    }

    private static void asTold(String call, Callable<?> got) {
        due(call, told(call), got);
    }

    private static void example() {
        about("the example");
        TraceCache cache = new TraceCache();
        asTold("cache.write(2, TraceCache.BRANCH, 0)", () -> cache.write(2, TraceCache.BRANCH, 0));
        asTold("cache.setPattern(2, 7, 4)", () -> cache.setPattern(2, 7, 4));
        asTold("cache.run(1)", () -> cache.run(1));
        asTold("cache.count(3)", () -> cache.count(3));
        asTold("cache.run(4)", () -> cache.run(4));
        due("count(6), the fetches from lines", 1, () -> cache.count(6));
        asTold("cache.programCounter()", () -> cache.programCounter());
        asTold("cache.lines()", () -> cache.lines());
        asTold("cache.line(2, 0, 0)", () -> cache.line(2, 0, 0));
        dueLine(cache, 2, 0, 3, 4, 2, 0, 1, 2, 3, 4, 5, 6);
        asTold("cache.line(2, 0, 1)", () -> cache.line(2, 0, 1));
        asTold("cache.nextFetch(0)", () -> cache.nextFetch(0));
        asTold("cache.rate()", () -> cache.rate());
        dueCounts(cache, 11, 5, 16);
        asTold("cache.undo()", () -> cache.undo());
        asTold("cache.programCounter()", () -> cache.programCounter());
        due("the text of the example", true, () -> String.join("\n", readme).contains("(char sign : \"2p110;r9\"."));
        type(cache, "2p110;r9");
        asTold("cache.errorPosition()", () -> cache.errorPosition());
        asTold("cache.runText()", () -> cache.runText());
        asTold("cache.undo()", () -> cache.undo());
        due("no call is left in README.md", false, () -> readme.subList(line, readme.size()).stream()
            .anyMatch(each -> each.startsWith("cache.")));
    }

    private static void methods() {
        about("the list of the methods");
        String all = String.join("\n", readme);
        for (Method method : TraceCache.class.getDeclaredMethods()) {
            if (Modifier.isPublic(method.getModifiers())) {
                due(method.getName(), true, () -> all.contains("`" + method.getName() + "("));
            }
        }
    }

    public static void main(String[] args) throws IOException {
        readme = Files.readAllLines(Path.of("README.md"));
        example();
        methods();
        end("ReadmeTest");
    }
}
