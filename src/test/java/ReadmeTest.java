import java.io.IOException;
import java.lang.reflect.Modifier;
import java.nio.file.Files;
import java.nio.file.Path;
import java.util.Arrays;
import java.util.regex.Matcher;
import java.util.regex.Pattern;

/** Asks for the answers that README.md gives in its examples, and looks whether it names every method. */
public final class ReadmeTest {
    private static final Pattern BLOCK = Pattern.compile("(?s)```java\n(.*?)```");
    private static final Pattern CALL = Pattern.compile("network\\.(\\w+\\([^)]*\\)); +// (-?\\d+)\\b.*");
    private static final Pattern TEXT =
            Pattern.compile("for \\(char sign : \"(.*)\"\\.toCharArray\\(\\)\\) network\\.appendCharacter\\(sign\\);");

    public static void main(String[] args) throws IOException {
        String readme = Files.readString(Path.of("README.md"));
        Matcher block = BLOCK.matcher(readme);
        int blocks = 0;
        while (block.find()) {
            blocks++;
            example("README.md, example " + blocks, block.group(1).split("\n"));
        }
        Run.isTrue("README.md has two examples: " + blocks, blocks == 2);
        Arrays.stream(ChannelBorrower.class.getDeclaredMethods())
                .filter(method -> Modifier.isPublic(method.getModifiers()))
                .forEach(method -> Run.isTrue("README.md names " + method.getName(),
                        readme.contains("`" + method.getName() + "`")));
        Run.end();
    }

    private static void example(String name, String[] lines) {
        Run.isTrue(name + " begins with a new object", lines[0].contains("network = new ChannelBorrower();"));
        Run run = new Run(name);
        for (int i = 1; i < lines.length; i++) {
            Matcher call = CALL.matcher(lines[i]);
            Matcher text = TEXT.matcher(lines[i]);
            if (call.matches()) {
                run.due(call.group(1) + " = " + call.group(2));
            } else {
                Run.isTrue(name + ", a line that can be read: " + lines[i], text.matches());
                run.type(text.group(1));
            }
        }
    }
}
