import java.io.IOException;
import java.io.UncheckedIOException;
import java.nio.file.Files;
import java.nio.file.Path;
import java.util.Set;
import java.util.TreeSet;
import java.util.regex.Matcher;
import java.util.regex.Pattern;
import java.util.stream.Stream;

/** What README.md says of the class and of the tests holds. .ci/run starts it where README.md lies. */
public final class ReadmeTest {
    private final String readme;

    private ReadmeTest(String readme) {
        this.readme = readme;
    }

    public static void main(String[] args) throws IOException {
        ReadmeTest test = new ReadmeTest(Files.readString(Path.of("README.md")));
        test.shortExample();
        test.longExample();
        test.tableOfTests();
        Check.end();
    }

    /** What stands between ``` and ```, of this sort. */
    private String fenced(String sort) {
        int from = readme.indexOf("```" + sort + "\n");
        Check.due("an example in " + sort, from >= 0, true);
        int begin = from + sort.length() + 4;
        return readme.substring(begin, readme.indexOf("```", begin));
    }

    private void shortExample() {
        String code = fenced("java");
        Matcher feed = Pattern.compile("house\\.feed\\((.*)\\); *// (.*)\n").matcher(code);
        Check.due("a feed with its text", feed.find(), true);
        StringBuilder text = new StringBuilder();
        int[] five = new int[5];
        String[] numbers = feed.group(1).split(", ");
        for (int i = 0; i < 5; i++) {
            five[i] = Integer.decode(numbers[i]);
            for (int shift = 24; shift >= 0; shift -= 8) {
                text.append((char) (five[i] >> shift & 255));
            }
        }
        Check.due("the text of the feed", text.toString(), feed.group(2));
        FairHouse house = new FairHouse();
        Check.due("feed", house.feed(five[0], five[1], five[2], five[3], five[4]), 20);
        for (String line : new String[] {"house.read(20)", "house.fault(1)", "house.come(0, 5)", "house.tick(3)",
            "house.script(0, 0)", "house.log(0, 0)"}) {
            Check.due("README has " + line, code.contains(line), true);
        }
        Check.due("read(20)", house.read(20), 0);
        Check.due("come(0, 5)", house.come(0, 5), 5);
        Check.due("tick(3)", house.tick(3), 1);
        Check.due("script(0, 0)", house.script(0, 0), 1);
        Check.due("log(0, 0)", house.log(0, 0), 6);
    }

    private void longExample() {
        FairHouse house = Check.fair(fenced("text"));
        for (int i = 0; i < 20; i++) {
            house.come(0, 12);
            house.tick(50);
        }
        Check.due("it goes on", house.script(0, 0), 0);
        Check.due("many rounds", house.total(1) >= 240, true);
        Check.due("the one who guides is not lost", house.free(0) >= 1, true);
        for (int i = 0; i < house.total(4) && i < 400; i++) {
            boolean servedOrGone = house.log(i, 0) == 4 || house.log(i, 0) == 5;
            Check.due("no STALL but of wear", servedOrGone || house.log(i, 0) == 1 && house.log(i, 2) == 5, true);
        }
        Check.due("why", house.script(0, 1), 5);
    }

    private void tableOfTests() throws IOException {
        Set<String> told = new TreeSet<>();
        Matcher row = Pattern.compile("\n\\| `(\\w+)` \\|").matcher(readme);
        while (row.find()) {
            told.add(row.group(1));
        }
        Set<String> there = new TreeSet<>();
        try (Stream<Path> files = Files.list(Path.of("src/test/java"))) {
            files.map(file -> file.getFileName().toString()).filter(name -> name.endsWith("Test.java"))
                    .forEach(name -> there.add(name.substring(0, name.length() - 5)));
        } catch (UncheckedIOException e) {
            throw e.getCause();
        }
        Check.due("the table of tests", told.toString(), there.toString());
    }
}
