import java.io.IOException;
import java.nio.file.Files;
import java.nio.file.Path;
import java.util.ArrayList;
import java.util.List;

/** Makes the calls of README.md's examples, and holds the answers that it tells against them. */
final class ReadmeTest {
    private static final List<String> examples = new ArrayList<>();

    public static void main(String[] args) throws IOException {
        readExamples();
        NotedVolume v = new NotedVolume();
        line("NotedVolume v = new NotedVolume();");
        int folder = v.make(0, true, 5);
        line("int folder = v.make(0, true, 5);", folder);
        int file = v.make(folder, false, 6);
        line("int file = v.make(folder, false, 6);", file);
        failureOfPower(v, folder, file);
        comingTooLate(v, file);
        Check.sameText("lines that no call stands for", "[]", examples.toString());
        Check.end("ReadmeTest");
    }

    private static void failureOfPower(NotedVolume v, int folder, int file) {
        line("v.change(file);", v.change(file));
        line("v.find(folder, 6);", v.find(folder, 6));
        line("v.of(file, 1);", v.of(file, 1));
        line("v.note(3, 5);", v.note(3, 5));
        line("v.read(0);", v.read(0));
        line("v.follow(1, 40);", v.follow(1, 40));
        line("v.inStep(1);", v.inStep(1));
        v.cutAfter(1);
        line("v.cutAfter(1);");
        line("v.rename(file, 0, 6);", v.rename(file, 0, 6));
        line("v.isOn();", v.isOn());
        line("v.start();", v.start());
        line("v.follow(1, 40);", v.follow(1, 40));
        line("v.inStep(1);", v.inStep(1));
    }

    private static void comingTooLate(NotedVolume v, int file) {
        for (int i = 0; i < 20; i++) v.change(file);
        line("for (int i = 0; i < 20; i++) v.change(file);");
        line("v.read(0);", v.read(0));
        v.list(0);
        line("v.list(0);");
        line("v.page(0);", v.page(0));
        line("v.shown(0, 1);", v.shown(0, 1));
        line("v.shown(0, 2);", v.shown(0, 2));
        line("v.read(0);", v.read(0));
        line("v.follow(1, 40);", v.follow(1, 40));
        line("v.inStep(1);", v.inStep(1));
    }

    private static void readExamples() throws IOException {
        boolean inside = false;
        for (String line : Files.readAllLines(Path.of("README.md"))) {
            if (line.startsWith("```")) {
                inside = line.equals("```java");
            } else if (inside) {
                examples.add(line);
            }
        }
    }

    private static String next() {
        return examples.isEmpty() ? "" : examples.remove(0);
    }

    private static void line(String call) {
        Check.sameText("the next line", call, next().split("  +//")[0]);
    }

    /** What stands behind // begins with the answer and a colon. */
    private static void line(String call, Object got) {
        String[] parts = next().split("  +// |: ");
        Check.sameText("the next line", call, parts[0]);
        Check.sameText("what is told of " + call, String.valueOf(got), parts.length > 1 ? parts[1] : "");
    }
}
