/** The sentences of the promises 37 to 43: what SHELVES hold, ROWS, PRICE, FAILURE. */
public final class ShelvesTest {
  private static final int LOW = Bench.LOW;
  private static final int HIGH = Bench.HIGH;

  private static void sentence(String words) { Bench.sentence(words); }
  private static void due(String call, long got, long want) { Bench.due(call, got, want); }
  private static FiddleBuzz with(String... texts) { return Bench.with(texts); }

  private static void keep() {
    sentence("SHELF d gets: what = 0 nothing (the others do not matter); 1 THING k: 0. -1.");
    FiddleBuzz x = with("p100 1 1;t00 1 0 1;t20 1 0 1;");
    due("THING 0", x.keep(1, 1, 0), 0);
    due("it is there", x.price(1), 5);
    due("THING 1, the last, in its place", x.keep(1, 1, 1), 0);
    due("it is there", x.price(1), 15);
    due("one THING on two SHELVES", x.keep(7, 1, 1), 0);
    due("on both", x.price(1) + x.price(7), 30);
    due("THING 2 of 2", x.keep(1, 1, 2), -1);
    due("THING -1", x.keep(1, 1, -1), -1);
    due("what 2", x.keep(1, 2, 0), -1);
    due("what -1", x.keep(1, -1, 0), -1);
    due("SHELF -1", x.keep(-1, 0, 0), -1);
    due("SHELF 8", x.keep(8, 0, 0), -1);
    due("all that changes nothing", x.price(1), 15);
    due("nothing, whatever k", x.keep(1, 0, HIGH), 0);
    due("nothing is there", x.price(1), -11);
    due("nothing in place of nothing", x.keep(1, 0, LOW), 0);
    due("the other stays", x.price(7), 15);
    due("no THINGS", with("p100 1 1;").keep(1, 1, 0), -1);
    due("nothing, without THINGS", new FiddleBuzz().keep(0, 0, 5), 0);
  }

  private static void row() {
    sentence("SHELF d gets a ROW of a SORT: 0. -1 (n above 100); -14.");
    FiddleBuzz x = with("p100 1 1;t00 1 0 1;");
    x.keep(3, 1, 0);
    due("100", x.row(3, 2, 100), 0);
    due("no THING any more", x.price(3), -12);
    due("a put", x.put(3, 99, 5), 0);
    due("101", x.row(3, 2, 101), -1);
    due("far above", x.row(3, 2, HIGH), -1);
    due("-1", x.row(3, 2, -1), -14);
    due("far below", x.row(3, 2, LOW), -14);
    due("SORT 3", x.row(3, 3, 1), -1);
    due("SORT -1", x.row(3, -1, 1), -1);
    due("SHELF 8", x.row(8, 2, 1), -1);
    due("SHELF -1", x.row(-1, 2, 1), -1);
    due("all that changes nothing", x.element(3, 99), 5);
    due("as long again", x.row(3, 2, 100), 0);
    due("0 again", x.element(3, 99), 0);
    due("0", x.row(3, 2, 0), 0);
    due("no place", x.put(3, 0, 5), -13);
  }

  private static void putAndElement() {
    sentence("Element i of the ROW becomes v: 0. -1, -11, -12, -13.");
    FiddleBuzz x = with("p100 1 1;t00 1 0 1;");
    Bench.fill(x, 2, 2, 7, 8, 9);
    due("the first", x.put(2, 0, 17), 0);
    due("the last", x.put(2, 2, 19), 0);
    due("the first is", x.element(2, 0), 17);
    due("between stays", x.element(2, 1), 8);
    due("the last is", x.element(2, 2), 19);
    due("place -1", x.put(2, -1, 1), -13);
    due("place 3 of 3", x.put(2, 3, 1), -13);
    due("far", x.put(2, HIGH, 1), -13);
    due("far below", x.put(2, LOW, 1), -13);
    due("SHELF -1", x.put(-1, 0, 1), -1);
    due("SHELF 8", x.put(8, 0, 1), -1);
    due("nothing", x.put(4, 0, 1), -11);
    x.keep(5, 1, 0);
    due("a THING", x.put(5, 0, 1), -12);
    sentence("Element i of the ROW. IllegalArgumentException: no such SHELF; IllegalStateException: no ROW, no such place.");
    due("there", Bench.thrown(x, 2, 2), 0);
    due("SHELF 8", Bench.thrown(x, 8, 0), 1);
    due("SHELF -1", Bench.thrown(x, -1, 0), 1);
    due("SHELF far, no place either", Bench.thrown(x, HIGH, -1), 1);
    due("nothing", Bench.thrown(x, 4, 0), 2);
    due("a THING", Bench.thrown(x, 5, 0), 2);
    due("place 3 of 3", Bench.thrown(x, 2, 3), 2);
    due("place -1", Bench.thrown(x, 2, -1), 2);
    due("far", Bench.thrown(x, 2, HIGH), 2);
    due("far below", Bench.thrown(x, 2, LOW), 2);
    x.row(2, 2, 0);
    due("an empty ROW", Bench.thrown(x, 2, 0), 2);
    x.row(2, 2, 2);
    x.put(2, 0, LOW);
    x.put(2, 1, HIGH);
    due("the least of ints", x.element(2, 0), LOW);
    due("the greatest of ints", x.element(2, 1), HIGH);
  }

  private static void holds(FiddleBuzz x, int d, int... values) {
    for (int i = 0; i < values.length; i++) due("element " + i, x.element(d, i), values[i]);
    due("no more", Bench.thrown(x, d, values.length), 2);
  }

  private static void copy() {
    sentence("n elements of the ROW in SHELF d from i on come to that in SHELF e from j on: n. -1, -11 (either), -12 (no ROWS of one SORT), -13 (n below 0, too).");
    FiddleBuzz x = with("p100 1 1;t00 1 0 1;");
    Bench.fill(x, 1, 1, 1, 2, 3, 4, 5);
    Bench.fill(x, 2, 1, 0, 0, 0);
    due("two, up to both ends", x.copy(1, 3, 2, 1, 2), 2);
    holds(x, 2, 0, 4, 5);
    holds(x, 1, 1, 2, 3, 4, 5);
    due("three, all there is room for", x.copy(1, 0, 2, 0, 3), 3);
    holds(x, 2, 1, 2, 3);
    due("four", x.copy(1, 0, 2, 0, 4), -13);
    due("three from 3", x.copy(1, 3, 2, 0, 3), -13);
    due("three to 1", x.copy(1, 0, 2, 1, 3), -13);
    holds(x, 2, 1, 2, 3);
    due("none", x.copy(1, 2, 2, 1, 0), 0);
    due("none at both ends", x.copy(1, 5, 2, 3, 0), 0);
    due("none beyond the first's end", x.copy(1, 6, 2, 3, 0), -13);
    due("none beyond the second's end", x.copy(1, 5, 2, 4, 0), -13);
    due("n -1", x.copy(1, 1, 2, 1, -1), -13);
    due("i -1", x.copy(1, -1, 2, 0, 1), -13);
    due("j -1", x.copy(1, 0, 2, -1, 1), -13);
    due("i and n go round", x.copy(1, HIGH, 2, 0, 2), -13);
    due("j and n go round", x.copy(1, 0, 2, HIGH, 2), -13);
    due("n far", x.copy(1, 1, 2, 1, HIGH), -13);
    due("n far below", x.copy(1, 1, 2, 1, LOW), -13);
    holds(x, 2, 1, 2, 3);
    due("onto itself, behind", x.copy(1, 0, 1, 1, 4), 4);
    holds(x, 1, 1, 1, 2, 3, 4);
    due("onto itself, ahead", x.copy(1, 1, 1, 0, 4), 4);
    holds(x, 1, 1, 2, 3, 4, 4);
    due("onto itself, in place", x.copy(1, 0, 1, 0, 5), 5);
    holds(x, 1, 1, 2, 3, 4, 4);
    Bench.fill(x, 3, 2, 9, 9);
    due("shorts to ints", x.copy(1, 0, 3, 0, 1), -12);
    due("ints to shorts", x.copy(3, 0, 1, 0, 1), -12);
    x.keep(4, 1, 0);
    due("of a THING", x.copy(4, 0, 1, 0, 1), -12);
    due("to a THING", x.copy(1, 0, 4, 0, 1), -12);
    due("of a THING to itself", x.copy(4, 0, 4, 0, 1), -12);
    due("of nothing", x.copy(5, 0, 1, 0, 1), -11);
    due("to nothing", x.copy(1, 0, 5, 0, 1), -11);
    due("of nothing to a THING", x.copy(5, 0, 4, 0, 1), -11);
    due("of a THING to nothing", x.copy(4, 0, 5, 0, 1), -11);
    due("SHELF 8", x.copy(8, 0, 1, 0, 1), -1);
    due("SHELF -1", x.copy(-1, 0, 1, 0, 1), -1);
    due("to SHELF 8", x.copy(1, 0, 8, 0, 1), -1);
    due("to SHELF -1", x.copy(1, 0, -1, 0, 1), -1);
    due("of nothing to SHELF 8", x.copy(5, 0, 8, 0, 1), -1);
    for (int sort = 0; sort < 3; sort += 2) {
      Bench.fill(x, 5, sort, 6, 7);
      x.row(6, sort, 2);
      due("SORT " + sort, x.copy(5, 0, 6, 0, 2), 2);
      holds(x, 6, 6, 7);
    }
  }

  private static void price() {
    sentence("PRICE of the THING on SHELF d. -1, -11, -12 (a ROW).");
    FiddleBuzz x = with("p100 1 1;t00 1 9 1;t10 1 9 1;t20 1 9 1;t30 1 9 1;t40 1 9 1;t50 1 9 1;t60 1 9 1;");
    int[] prices = {5, 14, 15, 2, 54, 19, 0};
    for (int t = 0; t < 7; t++) {
      x.keep(t, 1, t);
      due("KIND " + t, x.price(t), prices[t]);
    }
    due("SHELF -1", x.price(-1), -1);
    due("SHELF 8", x.price(8), -1);
    due("nothing", x.price(7), -11);
    x.row(7, 0, 0);
    due("a ROW", x.price(7), -12);
    due("ROOMED", tossed("t70 1 9 1;", true), 1);
  }

  /** PRICE or FAILURE of a THING that is alone. */
  private static int tossed(String thing, boolean price) {
    FiddleBuzz x = with("p100 1 1;" + thing);
    x.keep(0, 1, 0);
    return price ? x.price(0) : x.toss(0);
  }

  private static void toss() {
    sentence("The FAILURE of the THING on SHELF d is thrown, and caught: its number (the THING's); of CRACKED ones 100 more; of ROOMED ones 200 plus their PRICE, in place of all that (its number, too).");
    FiddleBuzz x = with("p100 1 1;t40 1 1 1;t00 1 1 1;t10 1 1 1;t20 1 1 1;t50 1 1 1;t60 1 1 1;t40 1 1 1;");
    int[] numbers = {100, 1, 2, 3, 4, 5, 106};
    for (int t = 0; t < 7; t++) {
      x.keep(7, 1, t);
      due("THING " + t, x.toss(7), numbers[t]);
    }
    FiddleBuzz y = with("p100 1 1;t70 1 1 1;t70 1 9 1;t00 1 9 1;");
    int[] roomed = {201, 201, 2};
    for (int t = 0; t < 3; t++) {
      y.keep(7, 1, t);
      due("ROOMED, THING " + t, y.toss(7), roomed[t]);
    }
    sentence("-1, -11, -12 (a ROW); -15: FITTED ones, and any with FIGURE 0, have none.");
    for (int kind = 0; kind < 8; kind++) due("KIND " + kind + ", FIGURE 0", tossed("t" + kind + "0 1 0 1;", false), -15);
    int[] one = {0, 0, 0, -15, 100, 0, 0, 201};
    for (int kind = 0; kind < 8; kind++) due("KIND " + kind + ", FIGURE 1", tossed("t" + kind + "0 1 1 1;", false), one[kind]);
    due("FITTED, FIGURE 9", tossed("t30 1 9 1;", false), -15);
    due("SHELF -1", x.toss(-1), -1);
    due("SHELF 8", x.toss(8), -1);
    due("nothing", x.toss(6), -11);
    x.row(6, 1, 1);
    due("a ROW", x.toss(6), -12);
  }

  public static void main(String[] args) throws Exception {
    keep();
    row();
    putAndElement();
    copy();
    price();
    toss();
    Bench.end();
  }
}
