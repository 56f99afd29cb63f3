import java.nio.charset.StandardCharsets;
import java.nio.file.Files;
import java.nio.file.Path;
import java.util.ArrayList;
import java.util.List;

/** What the tests by sentences have in common: the sentence that is looked at, answers, ways to fill a fiddle. */
final class Bench {
  static final int FAR = -1000000000;
  static final int LOW = Integer.MIN_VALUE;
  static final int HIGH = Integer.MAX_VALUE;

  private static final List<String> sentences = new ArrayList<>();
  private static int checkedSince = 1;
  private static int right;
  private static int wrong;

  private Bench() {
  }

  /** All that is due from here on is due by this sentence of the document. */
  static void sentence(String words) {
    if (checkedSince == 0) tell("nothing is due by: " + last());
    sentences.add(words);
    checkedSince = 0;
  }

  static void due(String call, long got, long want) {
    checkedSince++;
    if (got == want) {
      right++;
      return;
    }
    tell("\"" + last() + "\": " + call + " answered " + got + ", due is " + want);
  }

  static void due(String call, String got, String want) {
    checkedSince++;
    if (got.equals(want)) {
      right++;
      return;
    }
    tell("\"" + last() + "\": " + call + "\n  answered " + got + "\n  due is   " + want);
  }

  private static void tell(String what) {
    wrong++;
    System.out.println(what);
  }

  private static String last() {
    return sentences.isEmpty() ? "" : sentences.get(sentences.size() - 1);
  }

  /** Ends a test. A sentence that the document no longer has is told, but fails nothing: what is due may be as it was. */
  static void end() throws Exception {
    Path path = Path.of("../shared/DOC.md");
    String document = Files.exists(path) ? flat(Files.readString(path, StandardCharsets.UTF_8)) : "";
    for (String words : sentences) if (!document.contains(flat(words))) System.out.println("note: not in the document: " + words);
    if (checkedSince == 0) tell("nothing is due by: " + last());
    System.out.println(sentences.size() + " sentences, " + right + " answers as due, " + wrong + " not");
    if (wrong != 0) System.exit(1);
  }

  private static String flat(String s) {
    return s.replace("`", "").replaceAll("\\s+", " ");
  }

  /** Reads a text by SHELF 0. */
  static int read(FiddleBuzz x, String text) {
    fill(x, 0, text);
    return x.instrument(0);
  }

  static void fill(FiddleBuzz x, int d, String text) {
    int[] values = new int[text.length()];
    for (int i = 0; i < values.length; i++) values[i] = text.charAt(i);
    fill(x, d, 0, values);
  }

  static void fill(FiddleBuzz x, int d, int sort, int... values) {
    boolean taken = x.row(d, sort, values.length) == 0;
    for (int i = 0; i < values.length; i++) taken &= x.put(d, i, values[i]) == 0;
    if (!taken) tell("a ROW of " + values.length + " could not be filled");
  }

  static FiddleBuzz with(String... texts) {
    FiddleBuzz x = new FiddleBuzz();
    for (String text : texts) {
      int statements = read(x, text);
      if (statements <= 0) tell("reading " + text + " answered " + statements);
    }
    return x;
  }

  /** What a text answers on a new object. */
  static int reading(String text) {
    return read(new FiddleBuzz(), text);
  }

  /** 0 nothing, 1 IllegalArgumentException, 2 IllegalStateException, 3 another one. */
  static int thrown(FiddleBuzz x, int d, int i) {
    try {
      x.element(d, i);
      return 0;
    } catch (IllegalArgumentException e) {
      return e.getClass() == IllegalArgumentException.class ? 1 : 3;
    } catch (IllegalStateException e) {
      return e.getClass() == IllegalStateException.class ? 2 : 3;
    } catch (RuntimeException e) {
      return 3;
    }
  }
}
