import java.io.IOException;
import java.nio.file.Files;
import java.nio.file.Path;
import java.util.ArrayList;
import java.util.List;
import java.util.regex.Matcher;
import java.util.regex.Pattern;

/** The example in README.md answers what is written beside it. */
public final class ReadmeTest {
    private static final Pattern CALL = Pattern.compile("(?m)^hall\\.(\\w+)\\((.*?)\\);(?: +// answers (-?\\d+))?");

    public static void main(String[] args) throws IOException {
        Runs runs = new Runs("ReadmeTest");
        PatchHall hall = new PatchHall();
        Matcher example = CALL.matcher(Files.readString(Path.of("README.md")));
        List<String> seen = new ArrayList<>();
        while (example.find()) {
            seen.add(example.group());
            long answer = new Call(example.group(1) + " " + example.group(2).replace(",", "")).on(hall);
            if (example.group(3) == null) {
                runs.isTrue("an answer stands beside " + example.group(), false);
            } else {
                runs.equal(example.group(), answer, Long.parseLong(example.group(3)));
            }
        }
        runs.isTrue("README.md has an example: " + seen, seen.size() > 5);
        runs.end();
    }
}
