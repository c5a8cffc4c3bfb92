import java.io.IOException;
import java.lang.reflect.Method;
import java.lang.reflect.Modifier;
import java.nio.file.Files;
import java.nio.file.Path;

/** The calls of README.md's example, with the answers that it tells; each must stand there, too. */
public final class ReadmeTest {
    private static String readme = "";

    public static void main(String[] args) throws IOException {
        readme = Files.readString(Path.of("README.md"));
        example();
        everyMethodIsTold();
        Check.end("ReadmeTest");
    }

    private static void example() {
        WaveRows rows = new WaveRows(2, 8);
        stands("WaveRows rows = new WaveRows(2, 8);");
        rows.element(1, 10);
        stands("rows.element(1, 10);");
        rows.element(0, 12);
        stands("rows.element(0, 12);");
        answer("rows.assign(0, 1, 0);", 0, () -> rows.assign(0, 1, 0));
        Rows.rowDue("README.md, mode 1", "1@10 0@12", rows, 0);
        rows.element(1, 20);
        stands("rows.element(1, 20);");
        answer("rows.assign(0, 2, 9);", 1, () -> rows.assign(0, 2, 9));
        Rows.rowDue("README.md, mode 2", "1@10 1@20", rows, 0);
        answer("rows.count(0);", 2, () -> rows.count(0));
        answer("rows.at(0, 1, true);", 20, () -> rows.at(0, 1, true));
        answer("rows.at(0, 1, false);", 1, () -> rows.at(0, 1, false));
        answer("rows.projected(0, 15);", 1, () -> rows.projected(0, 15));
        answer("rows.next();", 10, rows::next);
        answer("rows.advance(rows.next());", 1, () -> rows.advance(rows.next()));
        answer("rows.now();", 10, rows::now);
        answer("rows.active(0);", 0, () -> rows.active(0));
        answer("rows.active(1);", WaveRows.NONE, () -> rows.active(1));
        answer("rows.value(0);", 1, () -> rows.value(0));
        answer("rows.total();", 1, rows::total);
        answer("rows.start(0, 7);", 1, () -> rows.start(0, 7));
        rows.element(5, 3);
        stands("rows.element(5, 3);");
        answer("rows.drop();", 1, rows::drop);
    }

    /** The answer in README.md's comment is the first word behind the call. */
    private static void answer(String call, long told, Check.Call asked) {
        stands(call);
        Check.due("README.md: " + call, told, asked);
        String word = told == WaveRows.NONE ? "WaveRows.NONE" : Long.toString(told);
        int begin = readme.indexOf("\n" + call);
        int end = begin < 0 ? -1 : readme.indexOf('\n', begin + 1);
        String line = end < 0 ? "" : readme.substring(begin, end);
        Check.same("README.md tells the answer of " + call, "true", "" + line.matches("(?s).*// " + word + "\\b.*"));
    }

    private static void stands(String line) {
        Check.same("README.md has " + line, "true", "" + readme.contains("\n" + line));
    }

    private static void everyMethodIsTold() {
        for (Method method : WaveRows.class.getDeclaredMethods()) {
            if (Modifier.isPublic(method.getModifiers())) {
                String told = "| `" + method.getName() + "(";
                Check.same("README.md tells " + method.getName(), "true", "" + readme.contains(told));
            }
        }
    }
}
