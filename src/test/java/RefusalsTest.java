import java.util.function.Supplier;
import java.util.function.ToLongFunction;

/** What is told of refusals: each at its call, the first one of several, and that a refused call changes nothing. */
public final class RefusalsTest {
  private static final int FAR = Bench.FAR;
  private static final int LOW = Bench.LOW;
  private static final int HIGH = Bench.HIGH;

  /** Of all that can be there something; SHELVES: 0 text, 1 THING, 2 tones, 3 ints, 4 nothing, 5 eleven tones, 6 another THING, 7 a 0. */
  private static FiddleBuzz rich() {
    FiddleBuzz x = Bench.with("p100 2 10;p103 3 20j0 50;p300 4 30;t00 50 3 7;t11 60 5 8;t32 9 9 9;t41 70 0 6;");
    x.wax(2, 5);
    x.ask(100, 1, true);
    x.image();
    x.wax(1, 4);
    x.hand(1);
    x.set(0, 3);
    x.set(1, 1);
    x.set(2, 2);
    x.set(3, -4);
    x.ask(103, 2, false);
    Bench.fill(x, 0, "p100 2 10;");
    x.keep(1, 1, 0);
    Bench.fill(x, 2, 1, 100, 300);
    Bench.fill(x, 3, 2, 5, 6, 7);
    Bench.fill(x, 5, 1, 1, 2, 3, 4, 5, 6, 7, 8, 9, 10, 11);
    x.keep(6, 1, 2);
    Bench.fill(x, 7, 1, 100, 0);
    return x;
  }

  private static FiddleBuzz full() {
    FiddleBuzz x = Bench.with("p100 2 10;t00 50 3 7;");
    for (int i = 0; i < 24; i++) x.ask(100, 1 + i, i > 0);
    return x;
  }

  private static FiddleBuzz bare() {
    return new FiddleBuzz();
  }

  /** All that can be asked of an object; it is changed by this, so it is asked once. */
  private static String all(FiddleBuzz x) {
    StringBuilder b = new StringBuilder();
    instrument(x, b);
    for (int d = 0; d < 8; d++) {
      b.append("\nSHELF ").append(d).append(' ').append(x.price(d)).append(' ').append(x.toss(d)).append(':');
      for (int i = 0; i < 12 && Bench.thrown(x, d, i) == 0; i++) b.append(' ').append(x.element(d, i));
    }
    b.append("\nrestore ").append(x.restore());
    instrument(x, b);
    return b.toString();
  }

  private static void instrument(FiddleBuzz x, StringBuilder b) {
    for (int i = 0; i < 6; i++) b.append(' ').append(x.count(i));
    for (int p = 0; p < x.count(0); p++) for (int i = 0; i < 8; i++) b.append(i == 0 ? '\n' : ' ').append(x.piece(p, i));
    for (int t = 0; t < x.count(1); t++) for (int i = 0; i < 6; i++) b.append(i == 0 ? '\n' : ' ').append(x.thing(t, i));
    b.append('\n').append(x.fits()).append(' ').append(x.hand(-1));
    for (int t = 0; t < x.count(1); t++) b.append(' ').append(x.length(t, 0)).append(' ').append(x.length(t, 1));
    for (int i = 0; i < 4; i++) b.append(' ').append(x.set(i, 0));
  }

  private static int thrown(FiddleBuzz x, int d, int i) { return Bench.thrown(x, d, i); }

  private static void refused(String call, Supplier<FiddleBuzz> made, ToLongFunction<FiddleBuzz> call1, long want) {
    FiddleBuzz x = made.get();
    Bench.due(call, call1.applyAsLong(x), want);
    Bench.due("all that is there after " + call, all(x), all(made.get()));
  }

  private static void no(String call, ToLongFunction<FiddleBuzz> call1, long want) {
    refused(call, RefusalsTest::rich, call1, want);
  }

  private static void instruments() {
    Bench.sentence("A refused call changes nothing.");
    Bench.due("what is asked tells things apart", all(rich()).equals(all(full())) ? 1 : 0, 0);
    no("instrument(-1)", x -> x.instrument(-1), -1);
    no("instrument(8)", x -> x.instrument(8), -1);
    no("instrument(4)", x -> x.instrument(4), -11);
    no("instrument(1)", x -> x.instrument(1), -12);
    no("instrument(2)", x -> x.instrument(2), -12);
    no("instrument(3)", x -> x.instrument(3), -12);
    no("instrument(0), an ASK is kept", x -> x.instrument(0), -2000);
    no("piece(-1, 0)", x -> x.piece(-1, 0), -1);
    no("piece(3, 0)", x -> x.piece(3, 0), -1);
    no("piece(0, -1)", x -> x.piece(0, -1), -1);
    no("piece(0, 8)", x -> x.piece(0, 8), -1);
    no("thing(-1, 0)", x -> x.thing(-1, 0), -1);
    no("thing(4, 0)", x -> x.thing(4, 0), -1);
    no("thing(0, -1)", x -> x.thing(0, -1), -1);
    no("thing(0, 6)", x -> x.thing(0, 6), -1);
    no("wax(-1, 1)", x -> x.wax(-1, 1), -1);
    no("wax(3, 1)", x -> x.wax(3, 1), -1);
    no("wax(0, -1)", x -> x.wax(0, -1), -1);
    no("wax(0, 21)", x -> x.wax(0, 21), -1);
    no("hand(-2)", x -> x.hand(-2), FAR - 1);
    no("hand(3)", x -> x.hand(3), FAR - 1);
    no("set(-1, 0)", x -> x.set(-1, 0), FAR - 1);
    no("set(4, 0)", x -> x.set(4, 0), FAR - 1);
    int[] least = {0, 0, 0, -9};
    int[] most = {20, 1, 3, 9};
    for (int what = 0; what < 4; what++) {
      int w = what;
      no("set(" + w + ", below)", x -> x.set(w, least[w] - 1), FAR - 1);
      no("set(" + w + ", above)", x -> x.set(w, most[w] + 1), FAR - 1);
    }
    refused("wax(0, 0) on nothing", RefusalsTest::bare, x -> x.wax(0, 0), -1);
    refused("hand(0) of nothing", RefusalsTest::bare, x -> x.hand(0), FAR - 1);
  }

  private static void swings() {
    no("swing(-1, ..)", x -> x.swing(-1, 100, 1), -1);
    no("swing(3, ..)", x -> x.swing(3, 100, 1), -1);
    no("swing(0, 0, ..)", x -> x.swing(0, 0, 1), -1);
    no("swing(0, 1201, ..)", x -> x.swing(0, 1201, 1), -1);
    no("swing(0, 100, 0)", x -> x.swing(0, 100, 0), -1);
    no("swing(0, 100, 100)", x -> x.swing(0, 100, 100), -1);
    no("buzzes(-1, ..)", x -> x.buzzes(-1, 100, 1, 0), -1);
    no("buzzes(4, ..)", x -> x.buzzes(4, 100, 1, 0), -1);
    no("buzzes(0, 0, ..)", x -> x.buzzes(0, 0, 1, 1), -1);
    no("buzzes(0, 1201, ..)", x -> x.buzzes(0, 1201, 1, 1), -1);
    no("buzzes(0, 100, 0, ..)", x -> x.buzzes(0, 100, 0, 1), -1);
    no("buzzes(0, 100, 100, ..)", x -> x.buzzes(0, 100, 100, 1), -1);
    no("buzzes(0, 100, 1, -1)", x -> x.buzzes(0, 100, 1, -1), -1);
    no("buzzes(0, 100, 1, 3)", x -> x.buzzes(0, 100, 1, 3), -1);
    no("heard(0, 1)", x -> x.heard(0, 1), -1);
    no("heard(1201, 1)", x -> x.heard(1201, 1), -1);
    no("heard(100, 0)", x -> x.heard(100, 0), -1);
    no("heard(100, 100)", x -> x.heard(100, 100), -1);
    no("bands(-1, ..)", x -> x.bands(-1, 1, -1, 0), -1);
    no("bands(4, ..)", x -> x.bands(4, 1, -1, 0), -1);
    no("bands(0, 0, ..)", x -> x.bands(0, 0, -1, 0), -1);
    no("bands(0, 100, ..)", x -> x.bands(0, 100, -1, 0), -1);
    no("bands(0, 1, -2, 0)", x -> x.bands(0, 1, -2, 0), -1);
    no("bands(0, 1, 99, 0)", x -> x.bands(0, 1, 99, 0), -4);
    no("bands(0, 1, -1, 2)", x -> x.bands(0, 1, -1, 2), -1);
    no("bands(0, 1, -1, -1)", x -> x.bands(0, 1, -1, -1), -1);
    no("loudest(-1, 1)", x -> x.loudest(-1, 1), -1);
    no("loudest(3, 1)", x -> x.loudest(3, 1), -1);
    no("loudest(0, 0)", x -> x.loudest(0, 0), -1);
    no("loudest(0, 100)", x -> x.loudest(0, 100), -1);
    no("softest(-1, 100)", x -> x.softest(-1, 100), -1);
    no("softest(4, 100)", x -> x.softest(4, 100), -1);
    no("softest(0, 0)", x -> x.softest(0, 0), -1);
    no("softest(0, 1201)", x -> x.softest(0, 1201), -1);
    no("softest(2, 1200)", x -> x.softest(2, 1200), -4);
  }

  private static void asks() {
    no("ask(0, ..)", x -> x.ask(0, 1, true), -1);
    no("ask(1201, ..)", x -> x.ask(1201, 1, true), -1);
    no("ask(100, 0, ..)", x -> x.ask(100, 0, true), -1);
    no("ask(100, 100, ..)", x -> x.ask(100, 100, true), -1);
    refused("ask when there are 24", RefusalsTest::full, x -> x.ask(100, 1, true), -2);
    refused("ask without THINGS", () -> Bench.with("p100 1 1;"), x -> x.ask(100, 1, true), -3);
    refused("fits without THINGS", () -> Bench.with("p100 1 1;"), x -> x.fits(), -3);
    no("both(0, 0)", x -> x.both(0, 0), -1);
    no("both(-1, 0)", x -> x.both(-1, 0), -1);
    no("both(4, 0)", x -> x.both(4, 0), -1);
    no("both(0, -1)", x -> x.both(0, -1), -1);
    no("both(0, 4)", x -> x.both(0, 4), -1);
    no("odds(-1, ..)", x -> x.odds(-1, false, 0), -1);
    no("odds(4, ..)", x -> x.odds(4, true, 0), -1);
    no("odds(0, .., -1)", x -> x.odds(0, false, -1), -1);
    no("odds(0, .., 2)", x -> x.odds(0, true, 2), -1);
    refused("odds of none", RefusalsTest::none, x -> x.odds(0, false, 0), -4);
    refused("odds of no pair", RefusalsTest::none, x -> x.odds(0, true, 1), -4);
    refused("which of none", RefusalsTest::none, x -> x.which(), -4);
    refused("next of none", RefusalsTest::none, x -> x.next(1), -4);
    refused("fewest of none", RefusalsTest::none, x -> x.fewest(2, 1), -4);
    no("next(0)", x -> x.next(0), -1);
    no("next(100)", x -> x.next(100), -1);
    tones("fewest", (x, d, strong, what) -> x.fewest(d, strong), false);
    no("fewest by 11", x -> x.fewest(5, 1), -13);
  }

  /** A rich one with which nothing FITS. */
  private static FiddleBuzz none() {
    FiddleBuzz x = rich();
    x.ask(1200, 1, true);
    return x;
  }

  private interface ByTones { int call(FiddleBuzz x, int d, int strong, int what); }

  private static void tones(String name, ByTones by, boolean what) {
    no(name + " SHELF -1", x -> by.call(x, -1, 1, 0), -1);
    no(name + " SHELF 8", x -> by.call(x, 8, 1, 0), -1);
    no(name + " STRONG 0", x -> by.call(x, 2, 0, 0), -1);
    no(name + " STRONG 100", x -> by.call(x, 2, 100, 0), -1);
    no(name + " nothing", x -> by.call(x, 4, 1, 0), -11);
    no(name + " a THING", x -> by.call(x, 1, 1, 0), -12);
    no(name + " a tone 0", x -> by.call(x, 7, 1, 0), -13);
    if (what) {
      no(name + " what -1", x -> by.call(x, 2, 1, -1), -1);
      no(name + " what 2", x -> by.call(x, 2, 1, 2), -1);
    }
  }

  private static void lumpsAndWorks() {
    no("shift(-1, 1)", x -> x.shift(-1, 1), -1);
    no("shift(3, 1)", x -> x.shift(3, 1), -1);
    no("shift(0, -1)", x -> x.shift(0, -1), -1);
    no("shift(0, 21)", x -> x.shift(0, 21), -1);
    no("shift(2, 16)", x -> x.shift(2, 16), -3);
    no("lives(-1, ..)", x -> x.lives(-1, 0, 0), -1);
    no("lives(21, ..)", x -> x.lives(21, 0, 0), -1);
    no("lives(.., -1)", x -> x.lives(1, 0, -1), -1);
    no("lives(.., 100)", x -> x.lives(1, 0, 100), -1);
    no("seamOrCrack(-1, ..)", x -> x.seamOrCrack(-1, 1, 100), -1);
    no("seamOrCrack(1, 4, ..)", x -> x.seamOrCrack(1, 4, 100), -1);
    no("seamOrCrack(1, 1, ..)", x -> x.seamOrCrack(1, 1, 100), -1);
    no("seamOrCrack(0, 1, ..)", x -> x.seamOrCrack(0, 1, 100), -1);
    no("seamOrCrack(.., 0)", x -> x.seamOrCrack(1, 3, 0), -1);
    no("seamOrCrack(.., 1201)", x -> x.seamOrCrack(1, 3, 1201), -1);
    no("seamOrCrack(1, 3, 1200)", x -> x.seamOrCrack(1, 3, 1200), -4);
    no("length(-1, 0)", x -> x.length(-1, 0), -1);
    no("length(4, 0)", x -> x.length(4, 0), -1);
    no("length(0, -1)", x -> x.length(0, -1), -1);
    no("length(0, 2)", x -> x.length(0, 2), -1);
    refused("length of none", RefusalsTest::none, x -> x.length(2, 0), -4);
    tones("friday", (x, d, strong, what) -> x.friday(d, strong, what), true);
    tones("rattles", (x, d, strong, what) -> x.rattles(d, strong, what), true);
    no("rattles by 11", x -> x.rattles(5, 1, 0), -13);
    no("friday by 11: no fault", x -> x.friday(5, 1, 1), 0);
    no("wolf(-2)", x -> x.wolf(-2), -1);
    no("wolf(9)", x -> x.wolf(9), -4);
    no("beats(-1)", x -> x.beats(-1), -1);
    no("beats(9)", x -> x.beats(9), -4);
    no("ends(-1)", x -> x.ends(-1), -1);
    no("ends(2)", x -> x.ends(2), -1);
    refused("ends without PIECES", RefusalsTest::bare, x -> x.ends(0), -3);
    no("ends that answers", x -> x.ends(0), 0);
    no("harm(-1)", x -> x.harm(-1), -1);
    no("harm(21)", x -> x.harm(21), -1);
    no("hair(-1, ..)", x -> x.hair(-1, 100, 1, 0), FAR - 1);
    no("hair(3, ..)", x -> x.hair(3, 100, 1, 0), FAR - 1);
    no("hair(.., 0, ..)", x -> x.hair(0, 0, 1, 0), FAR - 1);
    no("hair(.., 1201, ..)", x -> x.hair(0, 1201, 1, 0), FAR - 1);
    no("hair STRONG 0", x -> x.hair(0, 100, 0, 0), FAR - 1);
    no("hair STRONG 100", x -> x.hair(0, 100, 100, 0), FAR - 1);
    no("hair(.., -19)", x -> x.hair(0, 100, 1, -19), FAR - 1);
    no("hair(.., 19)", x -> x.hair(0, 100, 1, 19), FAR - 1);
    no("hair(.., -6)", x -> x.hair(0, 100, 1, -6), FAR - 3);
    no("hair(.., 14)", x -> x.hair(0, 100, 1, 14), FAR - 3);
    no("judge(-1, ..)", x -> x.judge(-1, 1, 2), -1);
    no("judge(3, ..)", x -> x.judge(3, 1, 2), -1);
    no("judge(0, 0, ..)", x -> x.judge(0, 0, 2), -1);
    no("judge(0, 100, ..)", x -> x.judge(0, 100, 2), -1);
    no("judge(.., -1)", x -> x.judge(0, 1, -1), -1);
    no("judge(.., 8)", x -> x.judge(0, 1, 8), -1);
    no("judge(.., 4)", x -> x.judge(0, 1, 4), -11);
    no("judge(.., 6)", x -> x.judge(0, 1, 6), -12);
    refused("restore of none", RefusalsTest::full, x -> x.restore(), -3);
    no("count(-1)", x -> x.count(-1), -1);
    no("count(6)", x -> x.count(6), -1);
  }

  private static void shelves() {
    no("keep(-1, ..)", x -> x.keep(-1, 1, 0), -1);
    no("keep(8, ..)", x -> x.keep(8, 0, 0), -1);
    no("keep(0, -1, 0)", x -> x.keep(0, -1, 0), -1);
    no("keep(0, 2, 0)", x -> x.keep(0, 2, 0), -1);
    no("keep(0, 1, -1)", x -> x.keep(0, 1, -1), -1);
    no("keep(0, 1, 4)", x -> x.keep(0, 1, 4), -1);
    no("row(-1, ..)", x -> x.row(-1, 0, 1), -1);
    no("row(8, ..)", x -> x.row(8, 0, 1), -1);
    no("row(0, -1, ..)", x -> x.row(0, -1, 1), -1);
    no("row(0, 3, ..)", x -> x.row(0, 3, 1), -1);
    no("row(0, 0, 101)", x -> x.row(0, 0, 101), -1);
    no("row(0, 0, -1)", x -> x.row(0, 0, -1), -14);
    no("put(-1, ..)", x -> x.put(-1, 0, 9), -1);
    no("put(8, ..)", x -> x.put(8, 0, 9), -1);
    no("put(4, ..)", x -> x.put(4, 0, 9), -11);
    no("put(1, ..)", x -> x.put(1, 0, 9), -12);
    no("put(3, -1, ..)", x -> x.put(3, -1, 9), -13);
    no("put(3, 3, ..)", x -> x.put(3, 3, 9), -13);
    no("element(-1, ..)", x -> thrown(x, -1, 0), 1);
    no("element(8, ..)", x -> thrown(x, 8, 0), 1);
    no("element(4, ..)", x -> thrown(x, 4, 0), 2);
    no("element(1, ..)", x -> thrown(x, 1, 0), 2);
    no("element(3, -1)", x -> thrown(x, 3, -1), 2);
    no("element(3, 3)", x -> thrown(x, 3, 3), 2);
    no("copy(-1, ..)", x -> x.copy(-1, 0, 2, 0, 1), -1);
    no("copy(8, ..)", x -> x.copy(8, 0, 2, 0, 1), -1);
    no("copy(.., -1, ..)", x -> x.copy(2, 0, -1, 0, 1), -1);
    no("copy(.., 8, ..)", x -> x.copy(2, 0, 8, 0, 1), -1);
    no("copy(4, ..)", x -> x.copy(4, 0, 2, 0, 1), -11);
    no("copy(.., 4, ..)", x -> x.copy(2, 0, 4, 0, 1), -11);
    no("copy(1, ..)", x -> x.copy(1, 0, 2, 0, 1), -12);
    no("copy(.., 1, ..)", x -> x.copy(2, 0, 1, 0, 1), -12);
    no("copy of other SORTS", x -> x.copy(2, 0, 3, 0, 1), -12);
    no("copy n -1", x -> x.copy(2, 0, 5, 0, -1), -13);
    no("copy i -1", x -> x.copy(2, -1, 5, 0, 1), -13);
    no("copy j -1", x -> x.copy(2, 0, 5, -1, 1), -13);
    no("copy beyond the first", x -> x.copy(2, 1, 5, 0, 2), -13);
    no("copy beyond the second", x -> x.copy(5, 0, 2, 1, 2), -13);
    no("copy far", x -> x.copy(2, 1, 5, 1, HIGH), -13);
    no("copy from far", x -> x.copy(2, HIGH, 5, 1, 1), -13);
    no("copy to far", x -> x.copy(2, 1, 5, HIGH, HIGH), -13);
    no("copy far below", x -> x.copy(2, LOW, 5, LOW, LOW), -13);
    no("price(-1)", x -> x.price(-1), -1);
    no("price(8)", x -> x.price(8), -1);
    no("price(4)", x -> x.price(4), -11);
    no("price(2)", x -> x.price(2), -12);
    no("toss(-1)", x -> x.toss(-1), -1);
    no("toss(8)", x -> x.toss(8), -1);
    no("toss(4)", x -> x.toss(4), -11);
    no("toss(2)", x -> x.toss(2), -12);
    no("toss(6), FITTED", x -> x.toss(6), -15);
  }

  private static void theFirst() {
    Bench.sentence("Answers of several refusals are the first one as they are told at the call");
    no("instrument: -1 ahead of all", x -> x.instrument(LOW), -1);
    refused("ask: -1 ahead of -2", RefusalsTest::full, x -> x.ask(0, 1, true), -1);
    refused("ask: -1 ahead of -2, STRONG", RefusalsTest::full, x -> x.ask(1, 0, true), -1);
    refused("ask: -1 ahead of -3", RefusalsTest::bare, x -> x.ask(1201, 1, true), -1);
    refused("odds: -1 ahead of -4", RefusalsTest::none, x -> x.odds(0, false, 2), -1);
    refused("next: -1 ahead of -4", RefusalsTest::none, x -> x.next(0), -1);
    refused("fewest: -1 ahead of -4", RefusalsTest::none, x -> x.fewest(8, 1), -1);
    refused("fewest: -11 ahead of -4", RefusalsTest::none, x -> x.fewest(4, 1), -11);
    refused("fewest: -12 ahead of -4", RefusalsTest::none, x -> x.fewest(1, 1), -12);
    refused("fewest: -13 ahead of -4", RefusalsTest::none, x -> x.fewest(5, 1), -13);
    no("fewest: -1 ahead of -11", x -> x.fewest(4, 0), -1);
    no("fewest: -1 ahead of -12", x -> x.fewest(1, 100), -1);
    no("fewest: -1 ahead of -13", x -> x.fewest(7, 0), -1);
    no("shift: -1 ahead of -3", x -> x.shift(2, 21), -1);
    refused("length: -1 ahead of -4", RefusalsTest::none, x -> x.length(2, 2), -1);
    no("friday: -1 ahead of -11", x -> x.friday(4, 0, 0), -1);
    no("friday: -1 ahead of -11, what", x -> x.friday(4, 1, 2), -1);
    no("friday: -1 ahead of -12", x -> x.friday(1, 1, 2), -1);
    no("friday: -1 ahead of -13", x -> x.friday(7, 1, 2), -1);
    no("rattles: -1 ahead of -11", x -> x.rattles(4, 100, 0), -1);
    no("rattles: -1 ahead of -11, what", x -> x.rattles(4, 1, -1), -1);
    no("rattles: -1 ahead of -12", x -> x.rattles(1, 1, 2), -1);
    no("rattles: -1 ahead of -13", x -> x.rattles(5, 1, 2), -1);
    refused("ends: -1 ahead of -3", RefusalsTest::bare, x -> x.ends(2), -1);
    no("hair: -1000000001 ahead of -1000000003", x -> x.hair(0, 0, 1, 18), FAR - 1);
    no("hair: n out of range ahead of beyond 9", x -> x.hair(0, 100, 1, 19), FAR - 1);
    no("judge: -1 ahead of -11", x -> x.judge(3, 1, 4), -1);
    no("judge: -1 ahead of -12", x -> x.judge(0, 0, 1), -1);
    no("row: -1 ahead of -14", x -> x.row(8, 0, -1), -1);
    no("row: -1 ahead of -14, SORT", x -> x.row(0, 3, -1), -1);
    no("put: -1 ahead of -13", x -> x.put(8, -1, 0), -1);
    no("put: -11 ahead of -13", x -> x.put(4, -1, 0), -11);
    no("put: -12 ahead of -13", x -> x.put(1, -1, 0), -12);
    no("element: no SHELF ahead of no place", x -> thrown(x, 8, -1), 1);
    no("copy: -1 ahead of -11", x -> x.copy(4, 0, 8, 0, 1), -1);
    no("copy: -1 ahead of -12", x -> x.copy(1, 0, -1, 0, 1), -1);
    no("copy: -11 ahead of -12", x -> x.copy(1, 0, 4, 0, 1), -11);
    no("copy: -11 ahead of -12, the other way", x -> x.copy(4, 0, 1, 0, 1), -11);
    no("copy: -11 ahead of -13", x -> x.copy(4, -1, 2, 0, -1), -11);
    no("copy: -12 ahead of -13", x -> x.copy(2, -1, 3, 0, -1), -12);
    no("copy: a THING ahead of -13", x -> x.copy(2, 0, 1, 0, -1), -12);
  }

  private static void kinds() {
    Bench.sentence("-1 no such thing, a number out of range, or not as told; -2 no room; -3 it can't be as things stand; -4 none; -11 to -15");
    Bench.due("no such PIECE", rich().piece(3, 0), -1);
    Bench.due("no such THING", rich().thing(4, 0), -1);
    Bench.due("no such SHELF", rich().price(8), -1);
    Bench.due("a number out of range", rich().wax(0, 21), -1);
    Bench.due("not as told: one twice", rich().both(2, 2), -1);
    Bench.due("no room for an ASK", full().ask(1, 1, true), -2);
    Bench.due("there are no THINGS", bare().ask(1, 1, true), -3);
    Bench.due("more than 20 then", rich().shift(2, 16), -3);
    Bench.due("there is no IMAGE", bare().restore(), -3);
    Bench.due("none", bare().which(), -4);
    Bench.due("-11", bare().put(0, 0, 0), -11);
    Bench.due("-12", rich().put(1, 0, 0), -12);
    Bench.due("-13", rich().put(3, 3, 0), -13);
    Bench.due("-14", bare().row(0, 0, -1), -14);
    Bench.due("-15", rich().toss(6), -15);
  }

  private static void farther() {
    Bench.sentence("where numbers that may be below 0 are answered (told at the call), 1000000000 less");
    FiddleBuzz x = rich();
    Bench.due("hand", x.hand(10), -1000000001L);
    Bench.due("set", x.set(3, 10), -1000000001L);
    Bench.due("hair", x.hair(9, 1, 1, 1), -1000000001L);
    Bench.due("hair beyond", x.hair(0, 1, 1, 18), -1000000003L);
    Bench.due("set answers numbers below 0", x.set(3, 0), -4);
    Bench.due("hair does as well", x.hair(1, 101, 1, -9) < 0 ? 1 : 0, 1);
  }

  public static void main(String[] args) throws Exception {
    instruments();
    swings();
    asks();
    lumpsAndWorks();
    shelves();
    theFirst();
    kinds();
    farther();
    Bench.end();
  }
}
