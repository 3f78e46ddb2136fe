import java.lang.reflect.Method;
import java.nio.file.Files;
import java.nio.file.Path;
import java.util.ArrayList;
import java.util.HashMap;
import java.util.List;
import java.util.Map;
import java.util.regex.Matcher;
import java.util.regex.Pattern;

/** What README.md says of the calls and of the tests is so: its lines of code are run one behind the other. */
public final class ReadmeTest {
  private static final Pattern CALL = Pattern.compile("(?:int (\\w+) = )?g\\.(\\w+)\\((.*)\\); *// (-?\\d+).*");

  public static void main(String[] args) throws Exception {
    String readme = Files.readString(Path.of("README.md"));
    runsItsCalls(readme);
    namesAllTests(readme);
    Due.end();
  }

  private static void runsItsCalls(String readme) throws Exception {
    GalleryWalls x = null;
    Map<String, Integer> names = new HashMap<>();
    int calls = 0;
    for (String line : linesOfCode(readme)) {
      if (line.equals("GalleryWalls g = new GalleryWalls();")) {
        x = new GalleryWalls();
        continue;
      }
      Matcher m = CALL.matcher(line);
      Due.yes("a call with its answer: " + line, m.matches());
      if (!m.matches()) continue;
      int got = answer(x, m.group(2), m.group(3), names);
      Due.is("README.md: " + line, Integer.parseInt(m.group(4)), got);
      if (m.group(1) != null) names.put(m.group(1), got);
      calls++;
    }
    Due.yes("README.md shows calls", calls > 0);
  }

  private static List<String> linesOfCode(String readme) {
    List<String> lines = new ArrayList<>();
    boolean code = false;
    for (String line : readme.split("\n")) {
      if (line.startsWith("```")) code = line.equals("```java");
      else if (code) lines.add(line.trim());
    }
    return lines;
  }

  private static int answer(GalleryWalls x, String name, String list, Map<String, Integer> names) throws Exception {
    String[] told = list.isEmpty() ? new String[0] : list.split(", ");
    Class<?>[] types = new Class<?>[told.length];
    Object[] values = new Object[told.length];
    for (int i = 0; i < told.length; i++) {
      types[i] = int.class;
      values[i] = names.containsKey(told[i]) ? names.get(told[i]) : Integer.decode(told[i]);
    }
    Method m = GalleryWalls.class.getMethod(name, types);
    return (Integer) m.invoke(x, values);
  }

  private static void namesAllTests(String readme) throws Exception {
    List<Path> files;
    try (var all = Files.list(Path.of("src/test/java"))) { files = all.sorted().toList(); }
    String told = readme.replace("`HouseEdgeTest` to `GapEdgeTest`",
      "`HouseEdgeTest` `TermEdgeTest` `HangEdgeTest` `NightEdgeTest` `RowEdgeTest` `WayEdgeTest` `MoveEdgeTest` `GapEdgeTest`")
      .replace("`HouseTest` to `GuardTest`",
      "`HouseTest` `TermTest` `HangingTest` `NightTest` `RowTest` `WayTest` `MoveTest` `GuardTest`");
    for (Path file : files) {
      String name = file.getFileName().toString().replace(".java", "");
      Due.yes("README.md names " + name, told.contains("`" + name + "`") || told.contains("`" + name + "."));
    }
  }
}
