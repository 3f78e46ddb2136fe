import java.nio.file.Files;
import java.nio.file.Path;
import java.util.List;
import java.util.regex.Matcher;
import java.util.regex.Pattern;

/** What of the rules of LANGUAGE.md can be seen in the text of the program. */
public final class LanguageTest {
  private static final String[] NEVER = {"->", "::", "\\bassert\\b", "\\bsynchronized\\b", "\\bfinally\\b", "\\bcatch\\b",
    "\\bfloat\\b", "\\bdouble\\b", "\\bprotected\\b", "\\bpackage\\b", "\\bvar\\b", "\\bSystem\\.(?!arraycopy)", "Exact\\b",
    "\\bObject\\b", "\\bMap\\b", "\\bSet\\b", "\\bhashCode\\b", "\\btoString\\b", "\\bequals\\b", "\\bString\\.", "\\bCharacter\\b",
    "\\bwhile \\(true\\)", "\\bfor \\(;;\\)", "\\binstanceof\\b", "\\bstatic \\{", "@", "\\bthread", "\\bThread", "\\brecord\\b"};

  public static void main(String[] args) throws Exception {
    Path file = Path.of("src/main/java/GalleryWalls.java");
    String source = Files.readString(file);
    for (int i = 0; i < source.length(); i++)
      if (source.charAt(i) > 126) { Due.yes("a sign above 126 at " + i, false); break; }
    String code = source.replaceAll("(?s)/\\*.*?\\*/", "").replaceAll("//[^\n]*", "").replaceAll("\"[^\"\n]*\"", "\"\"");
    for (String never : NEVER) {
      Matcher m = Pattern.compile(never).matcher(code);
      if (m.find()) Due.yes("in the program: " + never, false);
    }
    Matcher imports = Pattern.compile("import ([^;]+);").matcher(code);
    while (imports.find())
      Due.yes("import " + imports.group(1), List.of("java.util.ArrayList", "java.util.Arrays", "java.util.NoSuchElementException").contains(imports.group(1)));
    methodsAreShort(code.split("\n"));
    Due.end();
  }

  private static void methodsAreShort(String[] lines) {
    Pattern head = Pattern.compile("^( {4}| {8})(public |private |static |final )*[\\w<>\\[\\]]+ \\w+\\([^;]*\\{$");
    for (int i = 0; i < lines.length; i++) {
      Matcher m = head.matcher(lines[i]);
      if (!m.find()) continue;
      int n = 1;
      while (i + n < lines.length && !lines[i + n].equals(m.group(1) + "}")) n++;
      Due.yes("at most 60 lines: " + lines[i].trim(), n <= 60);
    }
  }
}
