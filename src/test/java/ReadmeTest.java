import java.io.IOException;
import java.lang.reflect.Method;
import java.lang.reflect.Modifier;
import java.nio.file.Files;
import java.nio.file.Path;

/** README.md: each line of its example is there and answers as it says, and every call of the face is told. */
public final class ReadmeTest {
    private final Due due = new Due("ReadmeTest");
    private final String text;
    private int exampleAt = 0;

    private ReadmeTest(String text) {
        this.text = text;
    }

    public static void main(String[] args) throws IOException {
        ReadmeTest test = new ReadmeTest(Files.readString(Path.of("README.md")));
        test.exampleAnswersAsItSays();
        test.everyCallIsTold();
        test.everyCountIsTold();
        test.everyTestIsTold();
        test.due.end();
    }

    /** The lines of the example in their order, each with its call made on one object. */
    private void exampleAnswersAsItSays() {
        RunKeeper store = new RunKeeper();
        line("store.put(5, 10L);", () -> store.put(5, 10L));
        line("int before = store.snapshot();", store::snapshot);
        int before = 0;
        line("store.delete(5);", () -> store.delete(5));
        line("store.get(before, 5);", () -> store.get(before, 5));
        line("store.next(-1, 0);", () -> store.next(-1, 0));
        line("store.sync();", store::sync);
        line("store.flush();", store::flush);
        line("store.count(0, 0);", () -> store.count(0, 0));
        line("store.entry(0, 0, 1, 1);", () -> store.entry(0, 0, 1, 1));
        line("store.merge(100);", () -> store.merge(100));
        deed("store.batch();", store::batch);
        line("store.put(6, 20L);", () -> store.put(6, 20L));
        line("store.put(7, 30L);", () -> store.put(7, 30L));
        line("store.end(true);", () -> store.end(true));
        line("store.get(-1, 7);", () -> store.get(-1, 7));
        deed("store.release(before);", () -> store.release(before));
        line("store.crash();", store::crash);
        line("store.next(-1, 0);", () -> store.next(-1, 0));
        line("store.get(-1, 7);", () -> store.get(-1, 7));
        due.same("```", text.substring(exampleAt).strip().lines().findFirst().orElse(""));
    }

    /** The line of the example that stands next, from its call on. */
    private String takeLine(String call) {
        int begin = exampleAt == 0 ? text.indexOf("store.put") : exampleAt;
        int end = text.indexOf('\n', begin);
        exampleAt = end + 1;
        String line = text.substring(begin, end);
        due.same(call, line.substring(0, Math.min(call.length(), line.length())));
        return line;
    }

    private void line(String call, Due.Call made) {
        String told = takeLine(call).replaceFirst(".*// ", "").replaceFirst("throws ", "throws.");
        due.same(told.replaceFirst(":.*", ""), Due.answerOf(made));
    }

    private void deed(String call, Due.Deed made) {
        takeLine(call);
        due.isDone(made);
    }

    private void isTold(String words) {
        due.same(words, text.contains(words) ? words : "not in README.md");
    }

    private void everyCallIsTold() {
        for (Method method : RunKeeper.class.getDeclaredMethods()) {
            if (Modifier.isPublic(method.getModifiers())) {
                isTold("    public " + method.getReturnType().getSimpleName() + " " + method.getName() + "(");
                isTold("| `" + method.getName() + "(");
            }
        }
    }

    private void everyCountIsTold() {
        for (int what = 0; what <= 9; what++) {
            isTold("\n| " + what + " | ");
        }
    }

    private void everyTestIsTold() {
        for (String name : Path.of("src/test/java").toFile().list()) {
            if (name.endsWith("Test.java")) {
                isTold("`" + name.replace(".java", "") + "`");
            }
        }
    }
}
