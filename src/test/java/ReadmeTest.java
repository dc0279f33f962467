import java.io.IOException;
import java.nio.charset.StandardCharsets;
import java.nio.file.Files;
import java.nio.file.Path;
import java.util.regex.Matcher;
import java.util.regex.Pattern;

/** The example of README.md answers what stands there. */
public final class ReadmeTest {
    public static void main(String[] args) throws IOException {
        Edges.sentence("README.md");
        String readme = new String(Files.readAllBytes(Path.of("README.md")), StandardCharsets.UTF_8);
        Matcher example = Pattern.compile("(?s)```java\n(.*?)```").matcher(readme);
        Edges.so("there is an example", example.find());
        Matcher text = Pattern.compile("\"([HXA0-9]+)\"").matcher(example.group(1));
        Edges.so("its day is told", text.find());
        SoftAsks x = Edges.write(new SoftAsks(), text.group(1));
        Matcher line = Pattern.compile("(?m)^x\\.(\\w+\\([^()]*\\)); *// (-?\\d+):").matcher(example.group(1));
        int lines = 0;
        while (line.find()) {
            lines++;
            Edges.due("x." + line.group(1), Edges.said(x, line.group(1).replace("L)", ")")), Long.parseLong(line.group(2)));
        }
        Edges.so("each line tells its answer", lines == example.group(1).split("(?m)^x\\.").length - 1 && lines > 20);
        Edges.finish("readme");
    }
}
