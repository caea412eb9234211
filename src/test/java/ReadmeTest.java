import java.io.IOException;
import java.nio.file.Files;
import java.nio.file.Path;

/** The example of README.md: its calls stand there in this order, each with the answer that it gives. */
final class ReadmeTest {
    private static String rest;

    public static void main(String[] args) throws IOException {
        String readme = Files.readString(Path.of("README.md"));
        rest = readme.substring(readme.indexOf("```java") + 7);
        rest = rest.substring(0, rest.indexOf("```"));
        line("ThreadSlots core = new ThreadSlots(4, 99);", "four threads");
        ThreadSlots core = new ThreadSlots(4, 99);
        line("core.ready(0, true);", core.ready(0, true));
        line("core.ready(2, true);", core.ready(2, true));
        line("core.cost(1);", core.cost(1));
        line("core.cycle();", core.cycle());
        line("core.cycle();", core.cycle() == ThreadSlots.NONE ? "NONE" : "a thread");
        line("core.count(6);", core.count(6));
        line("core.cycle();", core.cycle());
        line("core.set(5, 123);", core.set(5, 123));
        Check.same("register 5 of thread 2", core.register(2, 5), 123);
        line("core.share(2, 0);", core.share(2, 0));
        line("core.share(2, 1);", core.share(2, 1));
        line("core.put(0, 2, 77);", core.put(0, 2, 77));
        line("core.take(0, ThreadSlots.NONE);", core.take(0, ThreadSlots.NONE));
        line("core.take(0, 2);", "throws " + Check.outcome(() -> core.take(0, 2)));
        Check.same("what is left of the example", rest.strip(), "");
        Check.end("ReadmeTest");
    }

    /** The example's next line is this call, with a comment that begins with this answer. */
    private static void line(String call, Object answer) {
        rest = rest.stripLeading();
        int end = Math.max(0, rest.indexOf('\n'));
        String next = rest.substring(0, end);
        rest = rest.substring(end);
        Check.same("the line " + next, next.replaceFirst(" *// .*", ""), call);
        String comment = next.replaceFirst(".*?// ", "");
        Check.same("the answer in " + next, comment.matches("\\Q" + answer + "\\E([^0-9a-zA-Z].*)?"), true);
    }
}
