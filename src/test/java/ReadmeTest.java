import java.nio.file.Files;
import java.nio.file.Path;
import java.util.regex.Matcher;
import java.util.regex.Pattern;

/** README.md tells every call of the face by its own parameters, and its example answers as it says. */
final class ReadmeTest {
    private ReadmeTest() {
    }

    private static void example(String readme) {
        WaterCruise cruise = new WaterCruise();
        Matcher call = Pattern.compile("(?m)^cruise\\.(\\w+\\(.*\\));\\s*// (-?\\d+)\\b").matcher(readme);
        int calls = 0;
        while (call.find()) {
            calls++;
            Check.due("README.md, the example: " + call.group(1), Call.make(call.group(1)).on(cruise), Integer.parseInt(call.group(2)));
        }
        Check.due("README.md has an example", calls > 0);
    }

    /** The calls as the source writes them, without their types: station(x, y, depth, worth). */
    private static void calls(String readme, String source) {
        Matcher face = Pattern.compile("public int (\\w+)\\(([^)]*)\\)").matcher(source);
        int calls = 0;
        while (face.find()) {
            calls++;
            String call = face.group(1) + "(" + face.group(2).replaceAll("\\b(int|long|boolean) ", "") + ")";
            Check.due("README.md tells " + call, readme.contains("| `" + call + "` |"));
        }
        Check.due("the face has calls", calls, 34);
    }

    private static void statuses(String readme) {
        for (int status : new int[] {0, 1, 2, 3, 10, 11, 12, 13, 14, 15}) {
            Check.due("README.md tells STATUS " + status, readme.contains("\n| " + status + " | "));
        }
    }

    public static void main(String[] args) throws Exception {
        String root = args.length > 0 ? args[0] : ".";
        String readme = Files.readString(Path.of(root, "README.md"));
        example(readme);
        calls(readme, Files.readString(Path.of(root, "src", "main", "java", "WaterCruise.java")));
        statuses(readme);
        Check.end();
    }
}
