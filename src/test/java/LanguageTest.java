import java.nio.charset.StandardCharsets;
import java.nio.file.Files;
import java.nio.file.Path;
import java.util.regex.Matcher;
import java.util.regex.Pattern;

/** What a plain look at the words of src/main/java/FiddleBuzz.java can find against LANGUAGE.md; not all of it can be. */
public final class LanguageTest {
  private static int wrong = 0;

  private static void tell(String what) {
    wrong++;
    System.out.println(what);
  }

  private static void none(String source, String what, String pattern) {
    Matcher m = Pattern.compile(pattern).matcher(source);
    while (m.find()) tell(what + ": " + m.group());
  }

  /** Without comments, and with texts emptied. */
  private static String bare(String source) {
    String s = source.replaceAll("(?s)/\\*.*?\\*/", "");
    s = s.replaceAll("\"(?:[^\"\\\\]|\\\\.)*\"", "\"\"");
    return s.replaceAll("//[^\n]*", "");
  }

  public static void main(String[] args) throws Exception {
    String whole = Files.readString(Path.of("src/main/java/FiddleBuzz.java"), StandardCharsets.UTF_8);
    for (int i = 0; i < whole.length(); i++) if (whole.charAt(i) > 126) tell("a sign above 126 at " + i);
    String source = bare(whole);
    none(source, "rule 1", "\\b(package|protected)\\b[^\n]*");
    none(source, "rules 2, 3", "->|::|\\b(float|double|Object|var|record|import)\\b");
    none(source, "rule 4", "\\b\\w+Exact\\b|\\b(?:System\\.(?!arraycopy)|Character|Double|Float|Collections|HashMap)\\w*");
    none(source, "rule 4, Math", "\\bMath\\.(?!abs|min|max|floorDiv|floorMod)\\w+");
    none(source, "rule 5", "\\bstatic (?!final|int |boolean |long |String |void )[^\n]*|\\bstatic \\{");
    none(source, "rule 6", "\\b(finally|assert|synchronized|instanceof|getMessage|hashCode|equals|toString)\\b");
    none(source, "rule 6, what is caught", "catch \\((?!UnsupportedOperationException|IllegalArgumentException|IllegalStateException)\\w+");
    none(source, "rule 10", "\"\" \\+|\\+ \"\"");
    System.out.println(wrong == 0 ? "no fault of the language is seen" : wrong + " faults of the language");
    if (wrong != 0) System.exit(1);
  }
}
