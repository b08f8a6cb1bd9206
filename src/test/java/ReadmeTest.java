import java.io.IOException;
import java.nio.file.Files;
import java.nio.file.Path;
import java.util.List;

/** The example in README.md: each call stands there in this order, with the answer of the class. */
public final class ReadmeTest {
    private static List<String> readme;
    private static int next = 0;
    private static int wrong = 0;

    public static void main(String[] args) throws IOException {
        readme = Files.readAllLines(Path.of("README.md"));
        GatheringCache cache = new GatheringCache();
        due("cache.write(0, 17);", cache.write(0, 17));
        due("cache.write(1, 18);", cache.write(1, 18));
        due("cache.ifDestaged();", cache.ifDestaged());
        due("cache.destageAll();", cache.destageAll());
        due("cache.onDisk(1);", cache.onDisk(1));
        due("cache.undo();", cache.undo());
        due("cache.onDisk(1);", cache.onDisk(1));
        due("cache.power(false);", cache.power(false));
        due("cache.pass(90);", cache.pass(90));
        due("cache.ticksToLoss();", cache.ticksToLoss());
        due("cache.power(true);", cache.power(true));
        due("cache.write(0, 19);", cache.write(0, 19));
        due("cache.missing();", cache.missing());
        for (char c : "r0;p;m".toCharArray()) {
            cache.appendText(c);
        }
        due("cache.errorPosition();", cache.errorPosition());
        due("cache.runText();", cache.runText());
        if (wrong != 0 || cache.isOn() || cache.isIn()) {
            System.out.println("README.md's example is not as the class answers");
            System.exit(1);
        }
        System.out.println("README.md's example answers as it says");
    }

    /** Looks for the call behind the one before; what its line tells begins with the answer. */
    private static void due(String call, int answer) {
        while (next < readme.size() && !readme.get(next).startsWith(call)) {
            next++;
        }
        String told = next < readme.size() ? readme.get(next).substring(call.length()).strip() : "nothing";
        next++;
        if (!told.matches("// " + answer + "(:.*)?")) {
            wrong++;
            System.out.println(call + " answers " + answer + ", README.md says " + told);
        }
    }
}
