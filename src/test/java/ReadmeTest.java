import java.io.IOException;
import java.nio.file.Files;
import java.nio.file.Path;
import java.util.ArrayList;
import java.util.List;

/** The example of README.md, call by call: the same calls stand here, and each does what is said beside it there. */
public final class ReadmeTest {
    private static final List<String> CALLS = new ArrayList<>();

    private ReadmeTest() {
    }

    public static void main(String[] args) throws IOException {
        LogServer server = new LogServer(0, 0b111, 12345L);
        said("LogServer server = new LogServer(0, 0b111, 12345L);");
        said("server.tick(100);");
        Check.due("the alarm rings", server.tick(100), true);
        Check.due("it asks", server.state(0), 1);
        Check.dueLetter("it asks 1", server, 1, 1, 1, 1, 0, 0);
        Check.dueLetter("it asks 2", server, 0, 2, 1, 1, 0, 0);
        said("server.preanswer(1, 1, true);");
        server.preanswer(1, 1, true);
        Check.due("it stands", server.state(0), 2);
        said("server.sync();");
        Check.due("letters that waited go", server.sync(), 2);
        said("server.answer(1, 1, true);");
        server.answer(1, 1, true);
        Check.due("it leads", server.state(0), 3);
        said("server.sync();");
        Check.due("its first entry goes to 1 and 2", server.sync(), 2);
        said("int call = server.command(42);");
        int call = server.command(42);
        Check.due("entry 2 is written", server.state(8), 2);
        Check.due("nothing waits that has it", server.state(17), 0);
        said("server.sync();");
        server.sync();
        Check.due("entry 2 is on the disk", server.state(6), 2);
        said("server.appended(1, 1, true, 1, 1);");
        server.appended(1, 1, true, 1, 1);
        Check.due("entry 1 is committed", server.state(4), 1);
        Check.dueLetter("entry 2 goes to 1", server, 0, 1, 5, 1, 1, 1, 1, 1, 1, 1, 2, 42);
        said("server.appended(1, 1, true, 2, 1);");
        server.appended(1, 1, true, 2, 1);
        Check.due("entry 2 is committed", server.state(4), 2);
        said("server.call(call);");
        Check.due("the call was answered", server.call(call), 1);
        said("server.done(0, 1);");
        Check.due("what was done last", server.done(0, 1), 42);
        compareWithReadme();
        Check.end("ReadmeTest");
    }

    private static void said(String call) {
        CALLS.add(call);
    }

    private static void compareWithReadme() throws IOException {
        List<String> example = new ArrayList<>();
        boolean inside = false;
        for (String line : Files.readAllLines(Path.of("README.md"))) {
            if (line.startsWith("```")) {
                inside = line.equals("```java");
            } else if (inside) {
                example.add(line.replaceAll("\\s*//.*", ""));
            }
        }
        Check.due("how many calls README.md has", example.size(), CALLS.size());
        for (int k = 0; k < Math.min(example.size(), CALLS.size()); k++) {
            Check.due("README.md has " + example.get(k) + ", here is " + CALLS.get(k), example.get(k).equals(CALLS.get(k)), true);
        }
    }
}
