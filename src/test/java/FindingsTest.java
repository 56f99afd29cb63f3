import java.util.function.Consumer;

/** The sentences of "Terms", 3: what is found out of an INSTRUMENT, each at its edges. */
public final class FindingsTest {
  private static final int LOW = Bench.LOW;
  private static final int HIGH = Bench.HIGH;

  private static void sentence(String words) { Bench.sentence(words); }
  private static void due(String call, long got, long want) { Bench.due(call, got, want); }
  private static FiddleBuzz with(String... texts) { return Bench.with(texts); }

  private static void band(FiddleBuzz x, int thing, int strong, int i, int first, int last) {
    due("BAND " + i + " from", x.bands(thing, strong, i, 0), first);
    due("BAND " + i + " to", x.bands(thing, strong, i, 1), last);
  }

  private static void bands() {
    sentence("BANDS of a THING at STRONG: tones 1 .. 600 at which it BUZZES, next to one another as one: how many; the i-th's first, last.");
    // LOSS 1, STRONG 1: SWINGS 100 on its tone, 50 one off, 33 two off.
    FiddleBuzz x = with("p100 1 1;t00 50 0 1;t00 49 0 1;t00 999 0 1;");
    due("one tone alone", x.bands(0, 1, -1, 0), 1);
    band(x, 0, 1, 0, 100, 100);
    due("three next to one another", x.bands(1, 1, -1, 0), 1);
    band(x, 1, 1, 0, 99, 101);
    due("none", x.bands(2, 1, -1, 0), 0);
    band(x, 2, 1, 0, -4, -4);
    band(x, 0, 1, 1, -4, -4);
    band(x, 0, 1, HIGH, -4, -4);
    FiddleBuzz edge = with("p600 1 1;p10 99 1;p300 99 1;t00 49 0 1;t00 50 0 1;t01 50 0 1;t02 1 0 1;");
    due("599 .. 601, 601 isn't looked at", edge.bands(0, 1, -1, 0), 1);
    band(edge, 0, 1, 0, 599, 600);
    band(edge, 1, 1, 0, 600, 600);
    due("from 1 on", edge.bands(2, 99, -1, 1), 1);
    band(edge, 2, 99, 0, 1, 105);
    due("all", edge.bands(3, 99, -1, 0), 1);
    band(edge, 3, 99, 0, 1, 600);
    FiddleBuzz near = with("p100 1 1;p102 1 1;t50 25 0 1;t50 24 0 1;");
    due("a tone between", near.bands(0, 1, -1, 0), 2);
    band(near, 0, 1, 0, 100, 100);
    band(near, 0, 1, 1, 102, 102);
    band(near, 0, 1, 2, -4, -4);
    due("none between", near.bands(1, 1, -1, 0), 1);
    band(near, 1, 1, 0, 100, 102);
    FiddleBuzz ten = with("p50 1 1;p100 1 1;p150 1 1;p200 1 1;p250 1 1;p300 1 1;p350 1 1;p400 1 1;p450 1 1;p500 1 1;", "t50 30 0 1;");
    due("ten", ten.bands(0, 2, -1, 0), 10);
    for (int i = 0; i < 10; i++) band(ten, 0, 2, i, 50 * i + 50, 50 * i + 50);
    band(ten, 0, 2, 10, -4, -4);
    sentence("how many (i -1; a what that is none is refused, too)");
    due("what -1", x.bands(0, 1, -1, -1), -1);
    due("what 2", x.bands(0, 1, -1, 2), -1);
    due("what 1", x.bands(0, 1, -1, 1), 1);
    due("what 2 of a BAND", x.bands(0, 1, 0, 2), -1);
    due("what 2 ahead of no BAND", x.bands(0, 1, 9, 2), -1);
    due("i -2", x.bands(0, 1, -2, 0), -1);
    due("i far below", x.bands(0, 1, LOW, 0), -1);
  }

  private static void loudestAndSoftest() {
    sentence("LOUDEST: the tone 1 .. 600 with the greatest SWING of a PIECE; of several the least.");
    FiddleBuzz x = with("p10 99 1;p600 1 1;p600 99 1;p100 1 1;p200 99 1j3 99;");
    due("9, 10, 11 alike", x.loudest(0, 1), 9);
    due("600", x.loudest(1, 1), 600);
    due("599, 600 alike", x.loudest(2, 1), 599);
    due("where it is joined", x.loudest(4, 1), 100);
    x.wax(0, 20);
    due("TONE NOW 1: 1 and 2 alike", x.loudest(0, 1), 1);
    x.hand(2);
    due("nothing at all anywhere", x.loudest(2, 1), 1);
    sentence("SOFTEST: the least STRONG (1 .. 99) with which a THING BUZZES at f; -4.");
    FiddleBuzz y = with("p100 1 1;t00 99 0 1;t00 100 0 1;t00 98 0 1;t00 7 0 1;t60 1 0 1;t70 989 9 1;", "t70 990 9 1;");
    due("1", y.softest(0, 100), 1);
    due("2: as much as it takes is not above", y.softest(1, 100), 2);
    due("99, at f 199", y.softest(2, 199), 99);
    due("99, at f 1", y.softest(2, 1), 99);
    due("none, at f 199", y.softest(0, 199), -4);
    due("at f 1200", y.softest(3, 1200), 89);
    due("none: nobody wears it", y.softest(4, 100), -4);
    due("none: elsewhere", y.softest(5, 100), -4);
    y.set(2, 1);
    due("ROOMED, 990", y.softest(5, 100), 99);
    due("ROOMED, no 991", y.softest(6, 100), -4);
    y.set(1, 1);
    due("WORN now", y.softest(4, 100), 1);
  }

  private static void asksAtMost() {
    sentence("ASKS (24 at most): f, STRONG, and whether a buzz was heard");
    FiddleBuzz x = with("p100 1 1;t00 50 0 1;");
    for (int i = 1; i <= 24; i++) due("ASK " + i, x.ask(100, 1, i % 3 != 0), i);
    due("the 25th", x.ask(100, 1, true), -2);
    due("24 are kept", x.count(2), 24);
    due("16 heard", x.count(4), 16);
    due("forgotten", x.forget(), 24);
    due("room again", x.ask(100, 1, true), 1);
    due("the last of 24 counts", theLastCounts(), 0);
    sentence("An ASK is kept: how many. -1; -2; -3: no THINGS.");
    FiddleBuzz y = with("p100 1 1;");
    due("no THINGS", y.ask(100, 1, true), -3);
    due("f ahead of it", y.ask(0, 1, true), -1);
    due("none is kept", y.count(2), 0);
    due("nothing at all", new FiddleBuzz().ask(100, 1, true), -3);
    due("no room, f ahead of it", askWhenFull(1201, 1), -1);
    due("no room, STRONG ahead of it", askWhenFull(1, 100), -1);
    due("f 1, STRONG 1", x.ask(1, 1, false), 2);
    due("f 1200, STRONG 99", x.ask(1200, 99, false), 3);
  }

  private static int theLastCounts() {
    FiddleBuzz x = with("p100 1 1;t00 50 0 1;");
    for (int i = 0; i < 23; i++) x.ask(100, 1, true);
    due("23 that FIT", x.fits(), 1);
    x.ask(100, 1, false);
    return x.fits();
  }

  private static int askWhenFull(int f, int strong) {
    FiddleBuzz x = with("p100 1 1;t00 50 0 1;");
    for (int i = 0; i < 24; i++) x.ask(100, 1, true);
    due("full", x.ask(100, 1, true), -2);
    return x.ask(f, strong, true);
  }

  /** A THING that BUZZES at 100, STRONG 1, after loud, and not after quiet. */
  private static void asItWas(String text, Consumer<FiddleBuzz> loud, Consumer<FiddleBuzz> quiet) {
    FiddleBuzz x = with(text);
    loud.accept(x);
    due("BUZZES", x.heard(100, 1), 1);
    x.ask(100, 1, true);
    quiet.accept(x);
    due("doesn't BUZZ now", x.heard(100, 1), 0);
    due("but did: FITS", x.fits(), 1);
    due("its own GAP would do", x.length(0, 0) <= x.thing(0, 2) && x.thing(0, 2) <= x.length(0, 1) ? 1 : 0, 1);
    x.ask(100, 1, false);
    due("did, and then didn't: FITS", x.fits(), 1);
    loud.accept(x);
    due("whatever is now", x.fits(), 1);
    due("its own GAP alone as well", x.length(0, 0) <= x.thing(0, 2) && x.thing(0, 2) <= x.length(0, 1) ? 1 : 0, 1);
    x.forget();
    x.ask(100, 1, false);
    quiet.accept(x);
    due("BUZZED where none was heard", x.fits(), 0);
    x.forget();
    x.ask(100, 1, true);
    loud.accept(x);
    due("was silent where one was heard", x.fits(), 0);
  }

  private static void asksAsTheyWere() {
    sentence("with WAX, HAND, DRY, PLAYER, ROOM, POST as they were");
    asItWas("p100 1 1;t00 99 0 1;", x -> x.wax(0, 0), x -> x.wax(0, 20));
    asItWas("p100 1 1;t00 99 0 1;", x -> x.hand(-1), x -> x.hand(0));
    asItWas("p100 1 1;p100 1 1;t00 99 0 1;", x -> x.hand(1), x -> x.hand(0));
    asItWas("p100 1 1;t10 108 9 1;", x -> x.set(0, 1), x -> x.set(0, 0));
    asItWas("p100 1 1;t60 98 0 1;", x -> x.set(1, 1), x -> x.set(1, 0));
    asItWas("p100 1 1;t70 9 9 1;", x -> x.set(2, 1), x -> x.set(2, 2));
    asItWas("p100 1 1;p600 99 1j0 50;t01 50 0 1;", x -> x.set(3, 1), x -> x.set(3, 0));
    asItWas("p100 1 1;p600 99 1j0 50;t01 49 0 1;", x -> x.wax(0, 0), x -> x.wax(0, 1));
  }

  private static void fits() {
    sentence("A set of THINGS that are loose (one, or two) FITS, if at each ASK some of it BUZZES (as things were) just if a buzz was heard.");
    FiddleBuzz x = with("p100 1 1;p300 1 1;t00 50 0 1;t01 50 0 1;t01 99 0 1;");
    due("no ASKS: each", x.fits(), 7);
    due("no ASKS: two", x.both(0, 1), 1);
    x.ask(200, 1, false);
    due("nobody BUZZES, none heard", x.fits(), 7);
    x.ask(100, 1, true);
    due("one of them was heard", x.fits(), 1);
    due("some of two", x.both(0, 1), 1);
    due("none of two", x.both(1, 2), 0);
    x.ask(300, 1, true);
    due("none alone", x.fits(), 0);
    due("two together", x.both(1, 0), 1);
    due("these too", x.both(2, 0), 1);
    x.ask(301, 1, false);
    due("one at which none BUZZES leaves them", x.both(0, 1), 1);
    x.ask(300, 1, false);
    due("both heard and not", x.both(0, 1), 0);
    x.forget();
    x.ask(200, 1, true);
    due("heard where nobody BUZZES", x.fits(), 0);
    due("two neither", x.both(0, 1), 0);
    x.forget();
    x.ask(100, 1, false);
    due("silent: the others", x.fits(), 6);
    due("two of which one BUZZES", x.both(0, 1), 0);
    due("two of which none does", x.both(1, 2), 1);
    sentence("Whether two THINGS FIT together: 1, 0. -1 (one twice, too).");
    due("one twice", x.both(1, 1), -1);
    due("one twice that isn't there", x.both(3, 3), -1);
    due("a -1", x.both(-1, 0), -1);
    due("a 3 of 3", x.both(3, 0), -1);
    due("b -1", x.both(0, -1), -1);
    due("b 3 of 3", x.both(0, 3), -1);
    sentence("Single THINGS that FIT (bits). -3: no THINGS.");
    due("no THINGS", with("p100 1 1;").fits(), -3);
    due("nothing at all", new FiddleBuzz().fits(), -3);
    due("all seven", sevenAlike().fits(), 127);
  }

  private static FiddleBuzz sevenAlike() {
    return with("p100 1 1;t00 50 0 99;t00 50 0 99;t00 50 0 99;t00 50 0 99;t00 50 0 99;t00 50 0 99;t00 50 0 99;");
  }

  private static void odds(FiddleBuzz x, int thing, boolean two, int above, int below) {
    String call = "ODDS of " + thing + (two ? ", TWO" : "");
    due(call + ", above", x.odds(thing, two, 0), above);
    due(call + ", below", x.odds(thing, two, 1), below);
  }

  private static void oddsOf() {
    sentence("ODDS of a THING: the CHANCES of single THINGS that FIT: its own (0, if it doesn't) by all together; TWO likewise over pairs (CHANCES times each other): that a THING is one of them; in least terms; -4 nothing FITS.");
    odds(with("p100 1 1;t00 50 0 1;"), 0, false, 1, 1);
    odds(with("p100 1 1;t00 50 0 99;"), 0, false, 1, 1);
    odds(with("p100 1 1;t00 50 0 99;"), 0, true, -4, -4);
    FiddleBuzz x = with("p100 1 1;p300 1 1;t00 50 0 2;t01 50 0 3;");
    odds(x, 0, false, 2, 5);
    odds(x, 1, false, 3, 5);
    odds(x, 0, true, 1, 1);
    odds(x, 1, true, 1, 1);
    x.ask(100, 1, true);
    odds(x, 0, false, 1, 1);
    odds(x, 1, false, 0, 1);
    x.ask(300, 1, true);
    odds(x, 0, false, -4, -4);
    odds(x, 0, true, 1, 1);
    x.ask(300, 1, false);
    odds(x, 0, true, -4, -4);
    FiddleBuzz y = with("p100 1 1;p300 1 1;t00 50 0 6;t01 50 0 10;t00 50 0 15;");
    odds(y, 0, false, 6, 31);
    odds(y, 1, false, 10, 31);
    odds(y, 2, false, 15, 31);
    // Pairs: 60, 90, 150 of 300.
    odds(y, 0, true, 1, 2);
    odds(y, 1, true, 7, 10);
    odds(y, 2, true, 4, 5);
    y.ask(300, 1, true);
    odds(y, 0, true, 2, 7);
    odds(y, 1, true, 1, 1);
    odds(y, 2, true, 5, 7);
    y.forget();
    y.ask(300, 1, false);
    odds(y, 1, true, 0, 1);
    odds(y, 0, true, 1, 1);
    odds(sevenAlike(), 6, false, 1, 7);
    odds(sevenAlike(), 6, true, 2, 7);
    FiddleBuzz z = with("p100 1 1;t00 50 0 99;t00 50 0 98;");
    odds(z, 0, false, 99, 197);
    sentence("ODDS of a THING (two false), TWO (two true): above (part 0), below the line (1); -4. -1.");
    due("two false, above: 6 of 21", y.odds(0, false, 0), 2);
    due("two false, below", y.odds(0, false, 1), 7);
    due("two true, above", y.odds(0, true, 0), 1);
    due("two true, below", y.odds(0, true, 1), 1);
    due("part -1", z.odds(0, false, -1), -1);
    due("part 2", z.odds(0, true, 2), -1);
    due("THING -1", z.odds(-1, false, 0), -1);
    due("THING 2 of 2", z.odds(2, false, 0), -1);
    z.ask(100, 1, false);
    due("THING 2 of 2 ahead of nothing that FITS", z.odds(2, false, 0), -1);
    due("part 2 ahead of nothing that FITS", z.odds(0, false, 2), -1);
  }

  private static void whichOf() {
    sentence("WHICH: the single THING that FITS with the greatest CHANCE, of several the least; -4.");
    due("one", with("p100 1 1;t00 50 0 1;").which(), 0);
    due("all alike", sevenAlike().which(), 0);
    FiddleBuzz x = with("p100 1 1;p300 1 1;t00 50 0 8;t01 50 0 9;t00 50 0 9;t01 50 0 1;");
    due("the first of two", x.which(), 1);
    x.ask(100, 1, true);
    due("of those that FIT", x.which(), 2);
    x.ask(300, 1, true);
    due("none", x.which(), -4);
    due("no THINGS", new FiddleBuzz().which(), -4);
    FiddleBuzz y = with("p100 1 1;p300 1 1;t00 50 0 8;t01 50 0 1;");
    y.ask(300, 1, true);
    due("CHANCE 1 that FITS", y.which(), 1);
    FiddleBuzz z = with("p100 1 1;t00 50 0 98;t00 50 0 98;t00 50 0 98;t00 50 0 98;t00 50 0 98;t00 50 0 98;t00 50 0 99;");
    due("the last", z.which(), 6);
  }

  private static void nextOf() {
    sentence("NEXT at STRONG: the tone 10, 20, .. 600 at which the CHANCES of single THINGS that FIT and BUZZ (as it is now) are least off from half of all that FIT; of several the least; -4 none FITS.");
    due("2 and 1 are as far off from half of 3", with("p100 1 1;p200 1 1;t00 50 0 2;t01 50 0 1;").next(1), 100);
    due("1 and 2 are, too", with("p100 1 1;p200 1 1;t00 50 0 1;t01 50 0 2;").next(1), 100);
    due("10 is the first", with("p10 1 1;p600 1 1;t00 50 0 5;t01 50 0 5;").next(1), 10);
    due("600 is the last", with("p305 1 1;p600 1 1;t00 50 0 5;t01 50 0 5;").next(1), 600);
    due("no tone between tens", with("p305 1 1;p595 1 1;t00 50 0 5;t01 50 0 5;").next(1), 10);
    due("one THING: all or none are alike", with("p300 1 1;t00 50 0 5;").next(1), 10);
    FiddleBuzz x = with("p100 1 1;p200 1 1;p300 1 1;t00 50 0 7;t01 50 0 5;t02 50 0 1;");
    due("7 of 13 is half off, 5 is one and a half", x.next(1), 100);
    x.ask(100, 1, false);
    due("of 6 left 5 and 1 are alike", x.next(1), 200);
    x.ask(200, 1, true);
    due("one left", x.next(1), 10);
    x.ask(200, 1, false);
    due("none FITS", x.next(1), -4);
    due("STRONG 0", x.next(0), -1);
    due("STRONG 100", x.next(100), -1);
    due("no THINGS", new FiddleBuzz().next(1), -4);
    FiddleBuzz y = with("p600 1 1;p505 1 1;t00 50 0 5;t01 50 0 5;");
    y.ask(1, 1, false);
    y.wax(0, 20);
    due("as it is now: 55, off all tens", y.next(1), 10);
    y.wax(0, 1);
    due("as it is now: 400", y.next(1), 400);
  }

  private static int fewest(FiddleBuzz x, int strong, int... tones) {
    Bench.fill(x, 7, 1, tones);
    return x.fewest(7, strong);
  }

  private static void fewestOf() {
    sentence("FEWEST: of single THINGS that FIT, by told tones (a ROW; 6 at most) at STRONG (as it is now): how many of these tones need be bowed in the worst case");
    FiddleBuzz x = with("p100 1 1;p200 1 1;p300 1 1;p400 1 1;p500 1 1;p600 1 1;p50 1 1;", "t00 50 0 1;t01 50 0 1;t02 50 0 1;t03 50 0 1;t04 50 0 1;t05 50 0 1;t06 50 0 1;");
    due("no tones", fewest(x, 1), 0);
    due("one", fewest(x, 1, 100), 1);
    due("one, many times", fewest(x, 1, 100, 100, 100, 100, 100, 100), 1);
    due("six that tell one each", fewest(x, 1, 100, 200, 300, 400, 500, 600), 6);
    due("seven", fewest(x, 1, 100, 200, 300, 400, 500, 600, 50), -13);
    due("1 and 1200 are tones", fewest(x, 1, 1, 1200), 0);
    due("0 is none", fewest(x, 1, 100, 0), -13);
    due("1201 is none", fewest(x, 1, 1201, 100), -13);
    due("-1 is none", fewest(x, 1, -1), -13);
    x.wax(0, 20);
    due("as it is now: nobody BUZZES at 100", fewest(x, 1, 100), 0);
    FiddleBuzz low = with("p10 1 1;t00 5 0 1;t00 999 0 1;");
    due("no tone 0 beside none told", fewest(low, 99), 0);
    due("nor beside one", fewest(low, 1, 1200), 0);
    sentence("if each next one (one that tells some of those that are left from others) is chosen best by what was heard");
    // STRONG 5: 0 BUZZES from 95 to 105, 1 from 105 to 115, 2 about 300, 3 about 400.
    FiddleBuzz y = with("p100 1 1;p110 1 1;p300 1 1;p400 1 1;t00 80 0 1;t01 80 0 1;t02 80 0 1;t03 80 0 1;");
    due("105, then 95 or 300, by what was heard", fewest(y, 5, 95, 300, 105), 2);
    due("one by one", fewest(y, 5, 95, 300, 400), 3);
    due("one that tells none costs nothing", fewest(y, 5, 600, 95, 601, 300, 105, 602), 2);
    sentence("until at most one THING is left or no tone tells any of those left from another; -4 none FITS.");
    due("three alike", fewest(with("p100 1 1;t00 50 0 1;t00 50 0 1;t00 50 0 1;"), 1, 100, 101), 0);
    due("two of three alike", fewest(with("p100 1 1;t00 50 0 1;t00 50 0 1;t00 100 0 1;"), 1, 100), 1);
    due("one", fewest(with("p100 1 1;t00 50 0 1;"), 1, 100), 0);
    y.ask(105, 5, true);
    due("two are left", fewest(y, 5, 95, 300, 105), 1);
    y.ask(95, 5, false);
    due("one is left", fewest(y, 5, 95, 300, 105), 0);
    y.ask(300, 5, true);
    due("none FITS", fewest(y, 5, 95, 300, 105), -4);
    due("none FITS, no tones", fewest(y, 5), -4);
    due("none FITS, no tone 0", fewest(y, 5, 0), -13);
    due("no THINGS", fewest(new FiddleBuzz(), 5, 100), -4);
  }

  private static void lumps() {
    sentence("SHIFT of a PIECE by n more WAX (0 .. 20; no more than 20 in all): TONE NOW less what it would be.");
    FiddleBuzz x = with("p100 1 10;p200 1 10;");
    due("n -1", x.shift(0, -1), -1);
    due("n 0", x.shift(0, 0), 0);
    due("n 1: 100 by 21", x.shift(0, 1), 4);
    due("n 20: 2000 by 40", x.shift(0, 20), 50);
    due("n 21", x.shift(0, 21), -1);
    x.wax(0, 19);
    due("20 in all: 52 to 50", x.shift(0, 1), 2);
    due("21 in all", x.shift(0, 2), -3);
    due("39 in all", x.shift(0, 20), -3);
    due("n 21 ahead of it", x.shift(0, 21), -1);
    x.wax(0, 20);
    due("no more on 20", x.shift(0, 0), 0);
    due("one more on 20", x.shift(0, 1), -3);
    due("WAX stays", x.piece(0, 5), 20);
    x.wax(0, 0);
    sentence("LIVES: PIECES (bits) whose SHIFT by n more is as told, give or take m.");
    due("50, just so", x.lives(20, 50, 0), 1);
    due("100, just so", x.lives(20, 100, 0), 2);
    due("not 49", x.lives(20, 49, 0), 0);
    due("49 and 1", x.lives(20, 49, 1), 1);
    due("51 less 1", x.lives(20, 51, 1), 1);
    due("not 48 and 1", x.lives(20, 48, 1), 0);
    due("not 52 less 1", x.lives(20, 52, 1), 0);
    due("75, 25 either way", x.lives(20, 75, 25), 3);
    due("75, 24 either way", x.lives(20, 75, 24), 0);
    due("199 less 99", x.lives(20, 199, 99), 2);
    due("200 less 99", x.lives(20, 200, 99), 0);
    due("-49 and 99", x.lives(20, -49, 99), 1);
    due("-50 and 99", x.lives(20, -50, 99), 0);
    due("none more: each", x.lives(0, 0, 0), 3);
    sentence("LIVES by n more, a SHIFT told (any), give or take m (0 .. 99): bits (who would have more than 20 doesn't count). -1.");
    due("as low as can be", x.lives(20, LOW, 99), 0);
    due("as high as can be", x.lives(20, HIGH, 99), 0);
    due("as low, none more", x.lives(0, LOW, 0), 0);
    due("as high, none more", x.lives(0, HIGH, 99), 0);
    due("m -1", x.lives(20, 50, -1), -1);
    due("m 100", x.lives(20, 50, 100), -1);
    due("n -1", x.lives(-1, 50, 0), -1);
    due("n 21", x.lives(21, 50, 0), -1);
    x.wax(0, 1);
    due("21 in all doesn't count", x.lives(20, 75, 99), 2);
    due("20 in all does: 96 to 50", x.lives(19, 46, 0), 1);
    due("no PIECES", new FiddleBuzz().lives(0, 0, 0), 0);
    FiddleBuzz ten = with("p10 1 1;p10 1 1;p10 1 1;p10 1 1;p10 1 1;p10 1 1;p10 1 1;p10 1 1;p10 1 1;p10 1 1;");
    due("all ten", ten.lives(20, 9, 0), 1023);
  }

  private static void seams() {
    sentence("SEAM OR CRACK: of two THINGS on one PIECE the least STRONG at which just one of both BUZZES at f; -4.");
    FiddleBuzz x = with("p100 1 1;p100 1 1;t00 99 0 1;t00 100 0 1;t00 98 0 1;t00 7 0 1;t00 8 0 1;t00 50 0 1;", "t01 50 0 1;");
    due("STRONG 1", x.seamOrCrack(0, 1, 100), 1);
    due("either way", x.seamOrCrack(1, 0, 100), 1);
    due("STRONG 99, f 199", x.seamOrCrack(0, 2, 199), 99);
    due("STRONG 99, f 1", x.seamOrCrack(2, 0, 1), 99);
    due("f 1200", x.seamOrCrack(3, 4, 1200), 89);
    due("both from the first on", x.seamOrCrack(0, 5, 100), -4);
    due("none ever", x.seamOrCrack(0, 1, 1200), -4);
    due("f 0", x.seamOrCrack(0, 1, 0), -1);
    due("f 1201", x.seamOrCrack(0, 1, 1201), -1);
    due("a -1", x.seamOrCrack(-1, 1, 100), -1);
    due("b 7 of 7", x.seamOrCrack(0, 7, 100), -1);
    FiddleBuzz y = with("p100 1 1;t10 199 9 1;t40 199 9 1;t30 10 9 1;");
    due("a seam above 199, a crack above 99", y.seamOrCrack(0, 1, 100), 1);
    due("a crack and a fit piece above 100", y.seamOrCrack(1, 2, 100), 1);
    y.set(0, 11);
    due("DRY: a seam above 100, a crack above 50", y.seamOrCrack(0, 1, 100), 1);
    due("DRY: a seam above 100 and a fit piece, too", y.seamOrCrack(0, 2, 100), -4);
    sentence("SEAM OR CRACK: STRONG; -4. -1 (one twice, not on one PIECE, too).");
    due("one twice", x.seamOrCrack(1, 1, 100), -1);
    due("not on one PIECE", x.seamOrCrack(5, 6, 100), -1);
    due("not on one PIECE, the other way", x.seamOrCrack(6, 5, 100), -1);
  }

  private static FiddleBuzz asked(String thing, int dry, int[] heardAt, int[] silentAt) {
    FiddleBuzz x = with("p100 1 1;" + thing);
    x.set(0, dry);
    for (int strong : heardAt) x.ask(100, strong, true);
    for (int strong : silentAt) x.ask(100, strong, false);
    x.set(0, 0);
    return x;
  }

  private static int[] at(int... strong) { return strong; }

  private static void gap(FiddleBuzz x, String what, int least, int greatest) {
    int own = x.thing(0, 2);
    due(what + ": least", x.length(0, 0), least);
    due(what + ": greatest", x.length(0, 1), greatest);
    due(what + ": its own stays", x.thing(0, 2), own);
  }

  private static void lengths() {
    sentence("LENGTH: the least and the greatest GAP (1 .. 999) of a THING (its own in place) with which it would BUZZ at each ASK kept just as heard; -4.");
    // At 100 it SWINGS by 100 STRONG.
    gap(asked("t00 500 0 1;", 0, at(), at()), "no ASKS", 1, 999);
    gap(asked("t00 500 0 1;", 0, at(1), at()), "heard at 100", 1, 99);
    gap(asked("t00 500 0 1;", 0, at(), at(1)), "not heard at 100", 100, 999);
    gap(asked("t00 1 0 1;", 0, at(3, 5), at(1, 2)), "between 200 and 300", 200, 299);
    gap(asked("t00 1 0 1;", 0, at(10), at()), "heard at 1000", 1, 999);
    gap(asked("t00 1 0 1;", 0, at(), at(10)), "not heard at 1000", -4, -4);
    gap(asked("t00 1 0 1;", 0, at(2), at(3)), "heard at less than where not", -4, -4);
    gap(asked("t00 1 0 1;", 0, at(1), at(1)), "heard and not", -4, -4);
    FiddleBuzz low = with("p100 1 1;t00 500 0 1;");
    low.ask(149, 1, true);
    gap(low, "heard at 2", 1, 1);
    low.forget();
    low.ask(199, 1, true);
    gap(low, "heard at 1", -4, -4);
    low.forget();
    low.ask(199, 1, false);
    gap(low, "not heard at 1", 1, 999);
    low.ask(149, 1, false);
    gap(low, "not heard at 2", 2, 999);
    FiddleBuzz high = with("p100 1 1;t70 500 8 1;t70 500 9 1;");
    high.ask(1, 99, false);
    due("not heard at 891, least", high.length(0, 0), 891);
    due("not heard at 891, greatest", high.length(0, 1), 999);
    due("not there, least", high.length(1, 0), 1);
    gap(highest(false), "not heard at 999", 999, 999);
    gap(highest(true), "heard at 999", 1, 998);
    gap(asked("t10 500 9 1;", 11, at(1), at()), "SEAMED, 99 less", 1, 198);
    gap(asked("t10 500 9 1;", 11, at(), at(1)), "SEAMED, 99 less, not heard", 199, 999);
    gap(asked("t40 500 0 1;", 0, at(1), at()), "CRACKED: half of 199 is 99", 1, 199);
    gap(asked("t40 500 0 1;", 0, at(), at(1)), "CRACKED: half of 200 is 100", 200, 999);
    gap(asked("t30 500 9 1;", 0, at(1), at()), "FITTED: 90 more", 1, 9);
    gap(asked("t30 500 9 1;", 0, at(), at(10)), "FITTED, up to 1000", 910, 999);
    gap(asked("t60 500 0 1;", 0, at(), at(10)), "WORN, nobody wears it", 1, 999);
    gap(asked("t60 500 0 1;", 0, at(1), at()), "WORN, nobody wears it, heard", -4, -4);
    FiddleBuzz dry = with("p100 1 1;t10 500 9 1;");
    dry.set(0, 20);
    dry.ask(149, 1, true);
    gap(dry, "SEAMED, 1 at least", 1, 181);
    dry.ask(199, 1, true);
    gap(dry, "SEAMED, 1 at least is not below 1", -4, -4);
  }

  /** At 100, STRONG 10, its PIECE SWINGS by 1000 by 105, and 99 hundredths of 1000. */
  private static FiddleBuzz highest(boolean heard) {
    FiddleBuzz x = with("p100 1 1;p200 5 1j0 99;t01 500 0 1;");
    due("999", x.swing(1, 100, 10), 999);
    x.ask(100, 10, heard);
    return x;
  }

  public static void main(String[] args) throws Exception {
    bands();
    loudestAndSoftest();
    asksAtMost();
    asksAsTheyWere();
    fits();
    oddsOf();
    whichOf();
    nextOf();
    fewestOf();
    lumps();
    seams();
    lengths();
    Bench.end();
  }
}
