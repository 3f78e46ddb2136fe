import java.io.IOException;
import java.nio.file.DirectoryStream;
import java.nio.file.Files;
import java.nio.file.Path;
import java.util.TreeSet;
import java.util.regex.Matcher;
import java.util.regex.Pattern;

/** Each promise of the document has edge tests that bear its name, and each edge test bears a promise's name. */
public final class PromisesTest {
  private static final Pattern TEST = Pattern.compile("^  static void (\\w+)\\(\\)", Pattern.MULTILINE);
  private static final Pattern NAME = Pattern.compile("promise(\\d+)_\\w+");

  public static void main(String[] args) throws IOException {
    TreeSet<Integer> tested = new TreeSet<>();
    try (DirectoryStream<Path> files = Files.newDirectoryStream(Path.of("src/test/java"), "*EdgeTest.java")) {
      for (Path file : files) {
        Matcher test = TEST.matcher(Files.readString(file));
        while (test.find()) {
          Matcher name = NAME.matcher(test.group(1));
          Due.yes("a promise's name: " + test.group(1), name.matches());
          if (name.matches()) tested.add(Integer.valueOf(name.group(1)));
        }
      }
    }
    for (int promise = 1; promise <= 43; promise++) Due.yes("edge tests of promise " + promise, tested.contains(promise));
    Due.is("promises", 43, tested.size());
    Due.end();
  }
}
