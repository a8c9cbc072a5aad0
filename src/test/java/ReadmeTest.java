import java.io.IOException;
import java.lang.reflect.Method;
import java.lang.reflect.Modifier;
import java.nio.file.DirectoryStream;
import java.nio.file.Files;
import java.nio.file.Path;
import java.util.Arrays;

/** README.md: its example is run here as it stands there, and it leaves out no call and no test. */
public final class ReadmeTest {
    private static final Path README = Path.of("README.md"), TESTS = Path.of("src/test/java");

    public static void main(String[] args) throws IOException {
        Bench bench = new Bench("README.md");
        String readme = Files.readString(README);
        example(bench);
        exampleIsTheOneTold(bench, readme);
        everyCallIsTold(bench, readme);
        everyTestIsTold(bench, readme);
        Bench.finish();
    }

    private static void example(Bench bench) {
        // The example begins.
        ControlledStation station = new ControlledStation();
        int door = station.point(0, 10, 1, true);        // a SINGLE POINT, ADDRESS 10, GROUP 1, TIMED
        int lock = station.command(0, 20, door, true);   // a SINGLE COMMAND that sets it, SELECTED first
        station.open();                                  // the stream is there: THE LINK is STOPPED
        station.come(6, 0x680407000000L);                // six bytes came, START: it is STARTED
        station.change(door, 1, 0);                      // the door opened: an EVENT, sent at once
        station.tick(10);                                // a second went by

        byte[] bytes = new byte[station.count(2)];       // THE OUT: the answer to START, then the EVENT
        for (int i = 0; i < bytes.length; i++) {
            bytes[i] = (byte) station.out(i);
        }
        station.take(bytes.length);                      // they are on the stream, THE OUT is empty

        byte[] select = {104, 14, 0, 0, 2, 0, 45, 1, 6, 0, 1, 0, 20, 0, 0, (byte) 128};
        byte[] order = {104, 14, 2, 0, 4, 0, 45, 1, 6, 0, 1, 0, 20, 0, 0, 0};
        for (byte b : select) {
            station.come(1, b);                          // byte by byte is as good as eight at once
        }
        int ticksLeft = station.ordered(lock, 1);        // it is SELECTED, for 300 TICKS yet
        for (byte b : order) {
            station.come(1, b);
        }
        int shut = station.told(door, 4);                // it was carried out: the POINT's VALUE is 0
        // The example ends.
        int[] event = {30, 1, 3, 0, 1, 0, 10, 0, 0, 1, 0, 0, 128, 0, 1, 1, 0};
        int[] want = Bench.join(Bench.frameOf(Bench.START_ANSWER), Bench.data(0, 0, event));
        int[] got = new int[bytes.length];
        Arrays.setAll(got, i -> bytes[i] & 255);
        bench.due("THE OUT is " + Arrays.toString(got), Arrays.equals(got, want));
        bench.due("the door, the lock", door == 0 && lock == 0);
        bench.due("SELECTED for 300 TICKS", ticksLeft == 300);
        bench.due("carried out, once", shut == 0 && station.ordered(lock, 2) == 1);
        bench.due("STARTED", station.count(0) == 2);
    }

    private static void exampleIsTheOneTold(Bench bench, String readme) throws IOException {
        String source = Files.readString(TESTS.resolve("ReadmeTest.java"));
        String told = between(readme, "```java\n", "\n```");
        String run = between(source, "// The example begins.\n", "\n        // The example ends.");
        bench.due("there is an example", told.contains("new ControlledStation()"));
        bench.due("the example is the one that is run", told.equals(run.stripIndent()));
    }

    private static String between(String text, String start, String end) {
        int from = text.indexOf(start) + start.length();
        return text.substring(from, text.indexOf(end, from));
    }

    private static void everyCallIsTold(Bench bench, String readme) {
        for (Method method : ControlledStation.class.getDeclaredMethods()) {
            if (Modifier.isPublic(method.getModifiers())) {
                String name = method.getName();
                bench.due(name + " is told", readme.matches("(?s).*\n\\| [^\n|]*`" + name + "\\(.*"));
            }
        }
    }

    private static void everyTestIsTold(Bench bench, String readme) throws IOException {
        try (DirectoryStream<Path> sources = Files.newDirectoryStream(TESTS, "*Test.java")) {
            for (Path source : sources) {
                String name = source.getFileName().toString().replace(".java", "");
                bench.due(name + " is told", readme.matches("(?s).*\n\\| [^\n|]*`" + name + "`.*"));
            }
        }
    }
}
