import java.io.IOException;
import java.nio.file.Files;
import java.nio.file.Path;
import java.util.ArrayList;
import java.util.List;

/** The example in README.md, done call by call: each call stands there, with its true answer. */
final class ReadmeTest {
    private static final Check check = new Check();
    private static List<String> example;
    private static int line;

    public static void main(String[] args) throws IOException {
        example = linesOfExample();
        told("RowImprover desk = new RowImprover();", "");
        RowImprover desk = new RowImprover();
        told("desk.add(0, 1, 2, 3);", desk.add(0, 1, 2, 3));
        told("desk.add(1, 1, 1, 3);", desk.add(1, 1, 1, 3));
        told("desk.add(15, 0, 0, 0);", desk.add(15, 0, 0, 0));
        told("desk.live(0);", desk.live(0));
        told("desk.block(1);", desk.block(1));
        told("desk.same(0, 2, 0, 0, 2);", desk.same(0, 2, 0, 0, 2));
        told("desk.improve();", desk.improve());
        told("desk.instruction(0, 0);", desk.instruction(0, 0));
        told("desk.instruction(0, 1);", desk.instruction(0, 1));
        told("desk.instruction(0, 2);", desk.instruction(0, 2));
        told("desk.instruction(0, 3);", desk.instruction(0, 3));
        told("desk.count(0);", desk.count(0));
        desk.start(2, 9);
        told("desk.start(2, 9);", "register 2 starts with 9");
        told("desk.run(10);", desk.run(10));
        told("desk.result(1);", desk.result(1));
        told("desk.result(12);", desk.result(12));
        check.due("lines of the example", example.size(), line);
        check.end();
    }

    private static List<String> linesOfExample() throws IOException {
        List<String> lines = new ArrayList<>();
        boolean inside = false;
        for (String text : Files.readAllLines(Path.of("README.md"))) {
            if (text.startsWith("```")) {
                inside = text.equals("```java");
            } else if (inside) {
                lines.add(text);
            }
        }
        return lines;
    }

    /** Holds the next line's call, and what stands behind it up to the first colon. */
    private static void told(String call, Object answer) {
        String text = line < example.size() ? example.get(line) : "";
        line++;
        String[] parts = text.split("//", 2);
        String comment = parts.length < 2 ? "" : parts[1].split(":", 2)[0].trim();
        check.due("README.md: call " + line, parts[0].trim(), call);
        check.due("README.md: " + call, comment, answer.toString());
    }
}
