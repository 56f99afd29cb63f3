/** The sentences of the promises 1, 3 to 13, 15, 19 to 21: what the calls answer, and where that ends. */
public final class CallsTest {
  private static final int FAR = Bench.FAR;

  private static void sentence(String words) { Bench.sentence(words); }
  private static void due(String call, long got, long want) { Bench.due(call, got, want); }
  private static FiddleBuzz with(String... texts) { return Bench.with(texts); }

  private static void aNewObject() {
    sentence("FiddleBuzz(): No PIECES, no THINGS.");
    FiddleBuzz x = new FiddleBuzz();
    for (int i = 0; i < 6; i++) due("count " + i, x.count(i), 0);
    due("piece", x.piece(0, 0), -1);
    due("thing", x.thing(0, 0), -1);
    due("wax", x.wax(0, 0), -1);
    due("swing", x.swing(0, 100, 1), -1);
    due("buzzes", x.buzzes(0, 100, 1, 0), -1);
    due("heard", x.heard(100, 99), 0);
    due("bands", x.bands(0, 1, -1, 0), -1);
    due("loudest", x.loudest(0, 1), -1);
    due("softest", x.softest(0, 100), -1);
    due("ask", x.ask(100, 1, false), -3);
    due("forget", x.forget(), 0);
    due("fits", x.fits(), -3);
    due("both", x.both(0, 1), -1);
    due("odds", x.odds(0, false, 0), -1);
    due("which", x.which(), -4);
    due("next", x.next(1), -4);
    due("fewest, nothing is held", x.fewest(0, 1), -11);
    due("shift", x.shift(0, 0), -1);
    due("lives", x.lives(0, 0, 0), 0);
    due("seamOrCrack", x.seamOrCrack(0, 1, 100), -1);
    due("length", x.length(0, 0), -1);
    due("wolf", x.wolf(-1), 0);
    due("beats", x.beats(0), -4);
    due("ends", x.ends(0), -3);
    due("harm", x.harm(20), 0);
    due("hair", x.hair(0, 100, 1, 0), FAR - 1);
    due("judge", x.judge(0, 1, 0), -1);
    due("restore", x.restore(), -3);
    due("keep", x.keep(0, 1, 0), -1);
    due("hand", x.hand(0), FAR - 1);
    due("the HAND holds none", x.hand(-1), -4);
    for (int i = 0; i < 4; i++) due("set " + i, x.set(i, 0), 0);
    for (int d = 0; d < 8; d++) due("SHELF " + d, x.price(d), -11);
    due("another object is another", Bench.read(new FiddleBuzz(), "p10 1 1;") + x.count(0), 1);
  }

  private static void pieceAndThing() {
    sentence("Of a PIECE: 0 TONE, 1 LOSS, 2 WEIGHT, 3 the one to which it is joined (-4), 4 PASS, 5 WAX, 6 TONE NOW, 7 LOSS NOW. -1.");
    FiddleBuzz x = with("p101 2 3;p204 5 6j0 7;");
    x.wax(1, 8);
    x.hand(1);
    int[] first = {101, 2, 3, -4, 0, 0, 101, 2};
    int[] second = {204, 5, 6, 0, 7, 8, 204 - 204 * 8 / 20, 10};
    for (int i = 0; i < 8; i++) due("first, " + i, x.piece(0, i), first[i]);
    for (int i = 0; i < 8; i++) due("second, " + i, x.piece(1, i), second[i]);
    due("what -1", x.piece(0, -1), -1);
    due("what 8", x.piece(0, 8), -1);
    due("PIECE -1", x.piece(-1, 0), -1);
    due("PIECE 2 of 2", x.piece(2, 0), -1);
    sentence("Of a THING: 0 KIND, 1 PIECE, 2 GAP, 3 FIGURE, 4 CHANCE, 5 PRICE. -1.");
    due("two THINGS", Bench.read(x, "t51 23 4 56;t10 89 7 65;"), 2);
    int[] within = {5, 1, 23, 4, 56, 14};
    int[] seamed = {1, 0, 89, 7, 65, 12};
    for (int i = 0; i < 6; i++) due("first, " + i, x.thing(0, i), within[i]);
    for (int i = 0; i < 6; i++) due("second, " + i, x.thing(1, i), seamed[i]);
    due("what -1", x.thing(0, -1), -1);
    due("what 6", x.thing(0, 6), -1);
    due("THING -1", x.thing(-1, 0), -1);
    due("THING 2 of 2", x.thing(2, 0), -1);
  }

  private static void waxHandSet() {
    sentence("WAX on a PIECE becomes n: what it was. -1.");
    FiddleBuzz x = with("p100 1 1;p100 1 1;");
    due("0 at first", x.wax(1, 20), 0);
    due("20", x.wax(1, 0), 20);
    due("0", x.wax(1, 0), 0);
    due("n -1", x.wax(1, -1), -1);
    due("n 21", x.wax(1, 21), -1);
    due("PIECE -1", x.wax(-1, 1), -1);
    due("PIECE 2 of 2", x.wax(2, 1), -1);
    due("all WAX", x.count(3), 0);
    sentence("The HAND holds a PIECE (-1: none): what it held (-4: none). -1000000001.");
    due("none", x.hand(-1), -4);
    due("none still", x.hand(0), -4);
    due("0", x.hand(1), 0);
    due("1", x.hand(1), 1);
    due("1 again", x.hand(-1), 1);
    due("none", x.hand(-1), -4);
    due("-2", x.hand(-2), FAR - 1);
    due("2 of 2", x.hand(2), FAR - 1);
    due("far", x.hand(Bench.HIGH), FAR - 1);
    due("far below", x.hand(Bench.LOW), FAR - 1);
    due("holds none still", x.hand(-1), -4);
    sentence("DRY (what 0), PLAYER (1), ROOM (2), POST (3): what it was. -1000000001.");
    due("DRY", x.set(0, 7), 0);
    due("PLAYER", x.set(1, 1), 0);
    due("ROOM", x.set(2, 3), 0);
    due("POST", x.set(3, -1), 0);
    due("DRY was", x.set(0, 0), 7);
    due("PLAYER was", x.set(1, 0), 1);
    due("ROOM was", x.set(2, 0), 3);
    due("POST was, -1 is no refusal", x.set(3, 0), -1);
    due("what -1", x.set(-1, 0), FAR - 1);
    due("what 4", x.set(4, 0), FAR - 1);
  }

  private static void swings() {
    FiddleBuzz x = with("p100 1 1;p600 99 1j0 99;t00 50 0 1;t01 50 0 1;t20 50 0 1;");
    sentence("SWING of a PIECE at f, STRONG. -1.");
    due("own", x.swing(0, 100, 99), 9900);
    due("what comes", x.swing(1, 100, 99), 16 + 9801);
    due("PIECE 2 of 2", x.swing(2, 100, 99), -1);
    sentence("What of a THING SWINGS at f, STRONG (what 0), what it takes to STRIKE (1), whether it BUZZES (2). -1.");
    due("SWINGS", x.buzzes(1, 100, 1, 0), 99);
    due("STRIKES", x.buzzes(1, 100, 1, 1), 50);
    due("BUZZES", x.buzzes(1, 100, 1, 2), 1);
    due("doesn't", x.buzzes(1, 101, 1, 2), 0);
    due("what -1", x.buzzes(1, 100, 1, -1), -1);
    due("what 3", x.buzzes(1, 100, 1, 3), -1);
    due("THING 3 of 3", x.buzzes(3, 100, 1, 0), -1);
    sentence("THINGS that BUZZ at f, STRONG (bits). -1.");
    due("all", x.heard(100, 1), 7);
    due("one", x.heard(50, 1), 4);
    due("none", x.heard(200, 1), 0);
    due("at 1200", x.heard(1200, 99), 0);
    due("f 0", x.heard(0, 1), -1);
    due("f 1201", x.heard(1201, 1), -1);
    due("STRONG 0", x.heard(100, 0), -1);
    due("STRONG 100", x.heard(100, 100), -1);
    sentence("BANDS of a THING: how many (i -1; a what that is none is refused, too), the i-th's first (what 0), last (1); -4. -1.");
    due("how many", x.bands(2, 1, -1, 0), 2);
    due("the first", x.bands(2, 1, 0, 0) * 1000 + x.bands(2, 1, 0, 1), 50050);
    due("the last", x.bands(2, 1, 1, 0) * 1000 + x.bands(2, 1, 1, 1), 100100);
    due("one more", x.bands(2, 1, 2, 0), -4);
    due("THING 3 of 3", x.bands(3, 1, -1, 0), -1);
    sentence("LOUDEST of a PIECE at STRONG. -1.");
    due("PIECE 0", x.loudest(0, 99), 100);
    due("PIECE 1, by what comes", x.loudest(1, 99), 100);
    due("PIECE 2 of 2", x.loudest(2, 99), -1);
    sentence("SOFTEST of a THING at f; -4. -1.");
    due("1", x.softest(0, 100), 1);
    due("none", x.softest(0, 1200), -4);
    due("THING 3 of 3", x.softest(3, 100), -1);
  }

  private static void asks() {
    FiddleBuzz x = with("p100 1 1;t00 50 0 1;t00 40 0 2;");
    sentence("ASKS are forgotten: how many there were.");
    due("none", x.forget(), 0);
    for (int i = 0; i < 24; i++) x.ask(100, 1, true);
    due("24", x.forget(), 24);
    due("none again", x.forget(), 0);
    due("none is kept", x.count(2) + x.count(4), 0);
    due("all FIT", x.fits(), 3);
    sentence("WHICH; -4.");
    due("the likelier", x.which(), 1);
    x.ask(101, 1, true);
    x.ask(101, 1, false);
    due("none", x.which(), -4);
    sentence("NEXT at STRONG; -4. -1.");
    due("none FITS", x.next(99), -4);
    due("STRONG 100", x.next(100), -1);
    due("STRONG 0", x.next(0), -1);
    x.forget();
    due("STRONG 1: at 100 both, elsewhere none, all as far off", x.next(1), 10);
    sentence("FEWEST by the ROW in SHELF d at STRONG; -4. -1, -11, -12 (no ROW), -13 (more than 6, or no tone 1 .. 1200).");
    Bench.fill(x, 1, 1, 101, 99, 100, 1, 1200, 600);
    due("six tones: 101 tells them", x.fewest(1, 1), 1);
    Bench.fill(x, 2, 1, 101, 99, 100, 1, 1200, 600, 601);
    due("seven tones", x.fewest(2, 1), -13);
    Bench.fill(x, 2, 2, 101, 1201);
    due("1201", x.fewest(2, 1), -13);
    Bench.fill(x, 2, 0, 0, 101);
    due("0", x.fewest(2, 1), -13);
    Bench.fill(x, 2, 0, 101, 200);
    due("a byte 200 is -56", x.fewest(2, 1), -13);
    due("SHELF 8", x.fewest(8, 1), -1);
    due("SHELF -1", x.fewest(-1, 1), -1);
    due("STRONG 0", x.fewest(1, 0), -1);
    due("STRONG 100", x.fewest(1, 100), -1);
    due("nothing", x.fewest(7, 1), -11);
    x.keep(7, 1, 0);
    due("a THING", x.fewest(7, 1), -12);
    x.ask(200, 1, true);
    due("none FITS", x.fewest(1, 1), -4);
    due("none FITS, but a THING", x.fewest(7, 1), -12);
  }

  private static void lumps() {
    FiddleBuzz x = with("p100 1 10;t00 50 0 1;");
    sentence("SHIFT. -1; -3: more than 20 then.");
    due("20", x.shift(0, 20), 50);
    x.wax(0, 1);
    due("21", x.shift(0, 20), -3);
    due("PIECE 1 of 1", x.shift(1, 20), -1);
    sentence("LENGTH of a THING: the least (what 0), the greatest GAP (1); -4. -1.");
    due("least", x.length(0, 0), 1);
    due("greatest", x.length(0, 1), 999);
    due("what 2", x.length(0, 2), -1);
    due("what -1", x.length(0, -1), -1);
    due("THING 1 of 1", x.length(1, 0), -1);
    x.ask(1200, 1, true);
    due("none", x.length(0, 0), -4);
    due("none, what 1", x.length(0, 1), -4);
    sentence("WOLVES: how many (i -1), the i-th; -4. -1.");
    due("how many", x.wolf(-1), 0);
    due("none", x.wolf(0), -4);
    due("i -2", x.wolf(-2), -1);
  }

  public static void main(String[] args) throws Exception {
    aNewObject();
    pieceAndThing();
    waxHandSet();
    swings();
    asks();
    lumps();
    Bench.end();
  }
}
