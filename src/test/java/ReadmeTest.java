import java.io.IOException;
import java.lang.reflect.Method;
import java.lang.reflect.Modifier;
import java.nio.file.Files;
import java.nio.file.Path;
import java.util.List;
import java.util.function.Supplier;

/** What README.md says of the class is so. It is run from the project's directory, as .ci/run does. */
public final class ReadmeTest extends Answers {
    private static List<String> lines;

    private static boolean hasLine(String start, String rest) {
        return lines.stream().anyMatch(line -> line.startsWith(start)
                && line.substring(start.length()).strip().startsWith(rest));
    }

    private static void dueLine(String start, String rest) {
        dueText("README.md has a line \"" + start + " " + rest + "\"", "true", String.valueOf(hasLine(start, rest)));
    }

    /** The line of the example that makes the call says what it answers. */
    private static void example(String call, String answer, Supplier<Object> made) {
        dueLine(call, "// " + answer + ":");
        dueText(call, answer, String.valueOf(made.get()));
    }

    private static String named(int answer) {
        return answer == ExtentDisk.CUT ? "CUT" : answer == ExtentDisk.FULL ? "FULL" : String.valueOf(answer);
    }

    private static void exampleAnswersWhatItSays() {
        ExtentDisk disk = new ExtentDisk(16);
        dueLine("ExtentDisk disk = new ExtentDisk(16);", "// 16 blocks");
        example("disk.fill(9, 5000);", "5000", () -> disk.fill(9, 5000));
        example("disk.wish(0, 77);", "0", () -> disk.wish(0, 77));
        example("disk.change(1, 1, 0);", "3", () -> named(disk.change(1, 1, 0)));
        example("disk.byteAt(0, 4999);", "144", () -> disk.byteAt(0, 4999));
        example("disk.fill(1, 10);", "10", () -> disk.fill(1, 10));
        dueLine("disk.crash(1);", "// the power will fail");
        disk.crash(1);
        example("disk.change(2, 1, 1);", "CUT", () -> named(disk.change(2, 1, 1)));
        example("disk.isDown();", "true", disk::isDown);
        example("disk.recover();", "1", disk::recover);
        example("disk.note(0);", "77", () -> disk.note(0));
        example("disk.writes();", "4", disk::writes);
    }

    private static void tableHasEveryCall() {
        for (Method m : ExtentDisk.class.getDeclaredMethods()) {
            if (Modifier.isPublic(m.getModifiers())) {
                dueLine("| `" + m.getName() + "(", "");
            }
        }
    }

    public static void main(String[] args) throws IOException {
        lines = Files.readAllLines(Path.of("README.md"));
        sentence("README.md says how to use the class", ReadmeTest::exampleAnswersWhatItSays);
        sentence("README.md has every call in its table", ReadmeTest::tableHasEveryCall);
        finish();
    }
}
