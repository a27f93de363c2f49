import java.io.IOException;
import java.nio.file.Files;
import java.nio.file.Path;
import java.util.Set;
import java.util.TreeSet;
import java.util.regex.Matcher;
import java.util.regex.Pattern;

/** The lines of README.md that show a call and its answer hold, and every call is shown. */
public final class ReadmeTest {
    private static final Pattern LINE = Pattern.compile("play\\.(\\w+)\\((.*)\\);\\s*// (-?\\d+)\\b.*");
    private static final Pattern TEST = Pattern.compile("\\w+Test");

    public static void main(String[] args) throws IOException {
        String text = Files.readString(Path.of("README.md"));
        calls(text);
        tests(text);
        Due.end("ReadmeTest");
    }

    private static void calls(String text) {
        FigurePlay play = new FigurePlay();
        Set<String> shown = new TreeSet<>();
        for (String line : text.split("\n")) {
            if (line.startsWith("play.")) {
                Matcher parts = LINE.matcher(line);
                boolean read = parts.matches() && Calls.is(parts.group(1), numbers(parts.group(2)).length);
                Due.holds("README.md: a call and its answer: " + line, read);
                if (read) {
                    shown.add(parts.group(1));
                    Due.is("README.md: " + line, Calls.answer(play, parts.group(1), numbers(parts.group(2))),
                        Long.parseLong(parts.group(3)));
                }
            }
        }
        for (String name : Calls.names()) {
            Due.holds("README.md shows " + name, shown.contains(name));
        }
    }

    private static long[] numbers(String given) {
        String[] texts = given.split(",");
        long[] numbers = new long[texts.length];
        for (int k = 0; k < texts.length; k++) {
            String[] shifted = texts[k].trim().split(" << ");
            numbers[k] = Long.parseLong(shifted[0]);
            if (shifted.length == 2) {
                numbers[k] <<= Integer.parseInt(shifted[1]);
            }
        }
        return numbers;
    }

    /** README.md names the tests that are there, and no other. */
    private static void tests(String text) throws IOException {
        Set<String> named = new TreeSet<>();
        Matcher words = TEST.matcher(text);
        while (words.find()) {
            named.add(words.group());
        }
        Set<String> there = new TreeSet<>();
        try (var files = Files.list(Path.of("src/test/java"))) {
            files.map(file -> file.getFileName().toString()).filter(name -> name.endsWith("Test.java"))
                .forEach(name -> there.add(name.replace(".java", "")));
        }
        Due.holds("README.md names " + named + ", there are " + there, named.equals(there));
    }
}
