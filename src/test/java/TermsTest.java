/** The sentences of "Terms", 1 AN INSTRUMENT: each range, each cut, each KIND, SHELVES and ROWS. */
public final class TermsTest {
  private static void sentence(String words) { Bench.sentence(words); }
  private static void due(String call, long got, long want) { Bench.due(call, got, want); }
  private static int reading(String text) { return Bench.reading(text); }
  private static int read(FiddleBuzz x, String text) { return Bench.read(x, text); }
  private static FiddleBuzz with(String... texts) { return Bench.with(texts); }

  private static void pieces() {
    sentence("PIECES 0 .. 9 as they come");
    FiddleBuzz x = new FiddleBuzz();
    due("no PIECE yet", x.piece(0, 0), -1);
    for (int i = 0; i < 10; i++) due("PIECE " + i, read(x, "p" + (20 + i) + " 1 1;"), 1);
    due("ten", x.count(0), 10);
    due("an eleventh", read(x, "p30 1 1;"), -2000);
    due("still ten", x.count(0), 10);
    for (int i = 0; i < 10; i++) due("TONE of " + i, x.piece(i, 0), 20 + i);
    due("no PIECE 10", x.piece(10, 0), -1);
    due("no PIECE -1", x.piece(-1, 0), -1);
  }

  /** Reads one number of a text at its edges: below, least, most, above (-1: that can't be said). */
  private static void range(String before, String behind, int[] edges, int place) {
    int statements = place == 0 ? 1 : 2;
    if (edges[0] >= 0) due(before + edges[0] + behind, reading(before + edges[0] + behind), -2000 - place);
    due(before + edges[1] + behind, reading(before + edges[1] + behind), statements);
    due(before + edges[2] + behind, reading(before + edges[2] + behind), statements);
    if (edges[3] >= 0) due(before + edges[3] + behind, reading(before + edges[3] + behind), -2000 - place);
  }

  private static void numbersOfPieces() {
    sentence("TONE (10 .. 600)");
    range("p", " 1 1;", new int[] {9, 10, 600, 601}, 0);
    range("p", " 1 1;", new int[] {0, 11, 599, 999}, 0);
    sentence("LOSS (1 .. 99)");
    range("p10 ", " 1;", new int[] {0, 1, 99, 100}, 0);
    range("p10 ", " 1;", new int[] {0, 2, 98, 999}, 0);
    sentence("WEIGHT (1 .. 99)");
    range("p10 1 ", ";", new int[] {0, 1, 99, 100}, 0);
    range("p10 1 ", ";", new int[] {0, 2, 98, 999}, 0);
    sentence("joined to an earlier PIECE (or to none)");
    due("to itself, first", reading("p10 1 1j0 5;"), -2000);
    due("to itself", reading("p10 1 1;p10 1 1j1 5;"), -2008);
    due("to a later one", reading("p10 1 1;p10 1 1j2 5;p10 1 1;"), -2008);
    FiddleBuzz x = with("p10 1 1;p10 1 1j0 5;p10 1 1j1 5;p10 1 1;");
    due("to none", x.piece(0, 3), -4);
    due("to the first", x.piece(1, 3), 0);
    due("to the one just ahead", x.piece(2, 3), 1);
    due("to none, though others are there", x.piece(3, 3), -4);
    due("the tenth to the ninth", read(x, "p10 1 1;p10 1 1;p10 1 1;p10 1 1;p10 1 1;p10 1 1j8 99;") * 10 + x.piece(9, 3), 68);
    sentence("by PASS (0 .. 99 hundredths)");
    range("p10 1 1;p10 1 1j0 ", ";", new int[] {-1, 0, 99, 100}, 8);
    range("p10 1 1;p10 1 1j0 ", ";", new int[] {-1, 1, 98, 999}, 8);
    due("PASS 0", with("p10 1 1;p10 1 1j0 0;").piece(1, 4), 0);
    due("PASS 99", with("p10 1 1;p10 1 1j0 99;").piece(1, 4), 99);
  }

  private static void waxAndHand() {
    sentence("On each WAX (0 .. 20; 0 at first)");
    FiddleBuzz x = with("p100 1 10;p100 1 10;");
    due("at first", x.piece(0, 5) + x.piece(1, 5), 0);
    due("-1", x.wax(0, -1), -1);
    due("21", x.wax(0, 21), -1);
    due("0", x.wax(0, 0), 0);
    due("1", x.wax(0, 1), 0);
    due("20", x.wax(0, 20), 1);
    due("what is on it", x.piece(0, 5), 20);
    due("on each its own", x.piece(1, 5), 0);
    due("a PIECE that comes later has none", read(x, "p100 1 10;") + x.piece(2, 5), 1);
    sentence("a HAND holds one PIECE (or none, at first)");
    FiddleBuzz y = with("p100 10 10;p100 20 10;");
    due("none at first", y.piece(0, 7) * 100 + y.piece(1, 7), 1020);
    due("it holds the first", y.hand(0), -4);
    due("the first alone", y.piece(0, 7) * 100 + y.piece(1, 7), 2020);
    due("then the second", y.hand(1), 0);
    due("the first no more", y.piece(0, 7) * 100 + y.piece(1, 7), 1040);
    due("the same again", y.hand(1), 1);
    due("none", y.hand(-1), 1);
    due("none is held", y.piece(0, 7) * 100 + y.piece(1, 7), 1020);
  }

  /** DRY, PLAYER, ROOM, POST: at first 0, at both ends, beyond them; beyond them nothing changes. */
  private static void setting(int what, int least, int most) {
    FiddleBuzz x = new FiddleBuzz();
    due("at first", x.set(what, least), 0);
    due("below", x.set(what, least - 1), Bench.FAR - 1);
    due("far below", x.set(what, Bench.LOW), Bench.FAR - 1);
    due("the least", x.set(what, most), least);
    due("above", x.set(what, most + 1), Bench.FAR - 1);
    due("far above", x.set(what, Bench.HIGH), Bench.FAR - 1);
    due("the most", x.set(what, 0), most);
  }

  private static void settings() {
    sentence("DRY (0 .. 20 weeks; 0)");
    setting(0, 0, 20);
    range("d", ";", new int[] {-1, 0, 20, 21}, 0);
    sentence("PLAYER (0, 1; 0)");
    setting(1, 0, 1);
    range("w", ";", new int[] {-1, 0, 1, 2}, 0);
    sentence("ROOM (0 .. 3; 0)");
    setting(2, 0, 3);
    range("r", ";", new int[] {-1, 0, 3, 4}, 0);
    sentence("POST (-9 .. 9; 0)");
    setting(3, -9, 9);
  }

  private static int toneNow(int tone, int weight, int wax) {
    FiddleBuzz x = with("p" + tone + " 1 " + weight + ";");
    x.wax(0, wax);
    return x.piece(0, 6);
  }

  private static void tonesAndLosses() {
    sentence("TONE NOW of a PIECE: TONE less (TONE times WAX over (2 times WEIGHT, plus WAX), cut).");
    due("no WAX", toneNow(600, 1, 0), 600);
    due("all WAX on the lightest: 12000 by 22 is 545", toneNow(600, 1, 20), 55);
    due("all WAX on the heaviest: 12000 by 218 is 55", toneNow(600, 99, 20), 545);
    due("cut to nothing: 200 by 218", toneNow(10, 99, 20), 10);
    due("just 1: 218 by 218 would be, 210 isn't", toneNow(10, 95, 20), 10);
    due("just 1: 200 by 200", toneNow(10, 90, 20), 9);
    due("the lowest there is: 200 by 22 is 9", toneNow(10, 1, 20), 1);
    due("1 WAX on 1: 100 by 3 is 33", toneNow(100, 1, 1), 67);
    due("2 WAX on 1: 200 by 4 is 50", toneNow(100, 1, 2), 50);
    sentence("LOSS NOW: LOSS, twice that of the PIECE that the HAND holds.");
    FiddleBuzz x = with("p10 99 1;p10 1 1;");
    x.hand(0);
    due("the most", x.piece(0, 7), 198);
    due("not held", x.piece(1, 7), 1);
    x.hand(1);
    due("the least", x.piece(1, 7), 2);
    due("LOSS itself stays", x.piece(1, 1), 1);
    due("not held now", x.piece(0, 7), 99);
  }

  private static void ownSwings() {
    sentence("OWN SWING at a tone f (1 .. 1200), so STRONG (1 .. 99)");
    FiddleBuzz x = with("p100 1 1;");
    due("f 0", x.swing(0, 0, 50), -1);
    due("f 1", x.swing(0, 1, 50), 50);
    due("f 1200", x.swing(0, 1200, 50), 4);
    due("f 1201", x.swing(0, 1201, 50), -1);
    due("STRONG 0", x.swing(0, 100, 0), -1);
    due("STRONG 1", x.swing(0, 100, 1), 100);
    due("STRONG 99", x.swing(0, 100, 99), 9900);
    due("STRONG 100", x.swing(0, 100, 100), -1);
    sentence("STRONG times 100 by (LOSS NOW and how far f is off from TONE NOW), cut.");
    due("on it", x.swing(0, 100, 2), 200);
    due("1 below: 200 by 2", x.swing(0, 99, 2), 100);
    due("1 above: 200 by 2", x.swing(0, 101, 2), 100);
    due("2 below: 200 by 3, cut", x.swing(0, 98, 2), 66);
    due("2 above: 200 by 3, cut", x.swing(0, 102, 2), 66);
    due("just 1: 100 by 100", x.swing(0, 199, 1), 1);
    due("cut to 0: 100 by 101", x.swing(0, 200, 1), 0);
    x.wax(0, 1);
    due("TONE NOW 67", x.swing(0, 67, 2), 200);
    x.hand(0);
    due("LOSS NOW 2", x.swing(0, 67, 2), 100);
  }

  private static void swings() {
    sentence("SWING: OWN SWING and, if joined, PASS and POST (held to 0 .. 99) hundredths (cut) of the SWING of the PIECE to which it is joined.");
    // At 100, STRONG 1, the first SWINGS by 100, the others by themselves not at all: what they have is what comes.
    FiddleBuzz x = with("p100 1 1;p600 99 1j0 95;p600 99 1j0 5;p600 99 1j0 0;p600 99 1j0 99;p600 99 1;");
    int[] posts = {0, 3, 4, 5, 9, -4, -5, -6, -9};
    int[][] come = {{95, 98, 99, 99, 99, 91, 90, 89, 86}, {5, 8, 9, 10, 14, 1, 0, 0, 0}, {0, 3, 4, 5, 9, 0, 0, 0, 0}, {99, 99, 99, 99, 99, 95, 94, 93, 90}};
    for (int i = 0; i < posts.length; i++) {
      x.set(3, posts[i]);
      for (int p = 1; p < 5; p++) due("PIECE " + p + ", POST " + posts[i], x.swing(p, 100, 1), come[p - 1][i]);
      due("joined to none, POST " + posts[i], x.swing(0, 100, 1) * 10 + x.swing(5, 100, 1), 1000);
    }
    due("PASS itself stays", x.piece(1, 4), 95);
    FiddleBuzz y = with("p100 1 1;p600 99 1j0 50;p130 1 1j0 99;");
    due("half of 3, cut", y.swing(1, 132, 1), 1);
    due("33 and 99 hundredths of 3, each cut", y.swing(2, 132, 1), 33 + 2);
    FiddleBuzz z = with("p100 1 1;p600 99 1j0 99;p600 99 1j1 99;p600 99 1j2 99;p600 99 1j3 99;p600 99 1j4 99;", "p600 99 1j5 99;p600 99 1j6 99;p600 99 1j7 99;p600 99 1j8 99;");
    int due = 9900;
    for (int p = 1; p < 10; p++) {
      due = 9900 / 599 + due * 99 / 100;
      due("ten joined one to another: " + p, z.swing(p, 100, 99), due);
    }
  }

  private static void things() {
    sentence("THINGS 0 .. 6 as they come");
    FiddleBuzz x = with("p10 1 1;");
    due("no THING yet", x.thing(0, 0), -1);
    for (int i = 0; i < 7; i++) due("THING " + i, read(x, "t00 " + (1 + i) + " 0 1;"), 1);
    due("an eighth", read(x, "t00 1 0 1;"), -2000);
    due("seven", x.count(1), 7);
    for (int i = 0; i < 7; i++) due("GAP of " + i, x.thing(i, 2), 1 + i);
    due("no THING 7", x.thing(7, 0), -1);
    due("no THING -1", x.thing(-1, 0), -1);
    sentence("of KINDS: 0 BUZZ; 1 SEAMED under BUZZ; 2 STRINGED under BUZZ; 3 FITTED under BUZZ; 4 CRACKED under SEAMED; 5 WITHIN under BUZZ; 6 WORN under BUZZ; 7 ROOMED under WORN");
    for (int kind = 0; kind < 8; kind++) due("KIND " + kind, with("p10 1 1;t" + kind + "0 1 0 1;").thing(0, 0), kind);
    range("p10 1 1;t", "0 1 0 1;", new int[] {-1, 0, 7, 8}, 8);
    range("p10 1 1;t", "0 1 0 1;", new int[] {-1, 1, 6, 9}, 8);
    sentence("each on a PIECE");
    due("none is there", reading("t00 1 0 1;"), -2000);
    due("0", reading("p10 1 1;t00 1 0 1;"), 2);
    due("1, not there", reading("p10 1 1;t01 1 0 1;"), -2008);
    FiddleBuzz y = with("p10 1 1;p10 1 1;p10 1 1;p10 1 1;p10 1 1;p10 1 1;p10 1 1;p10 1 1;p10 1 1;p10 1 1;");
    due("9 of ten", read(y, "t09 1 0 1;") * 10 + y.thing(0, 1), 19);
    sentence("with a GAP (1 .. 999)");
    range("p10 1 1;t00 ", " 0 1;", new int[] {0, 1, 999, -1}, 8);
    range("p10 1 1;t00 ", " 0 1;", new int[] {-1, 2, 998, -1}, 8);
    sentence("a FIGURE (0 .. 9)");
    range("p10 1 1;t00 1 ", " 1;", new int[] {-1, 0, 9, -1}, 8);
    due("FIGURE 0", with("p10 1 1;t00 1 0 1;").thing(0, 3), 0);
    due("FIGURE 9", with("p10 1 1;t00 1 9 1;").thing(0, 3), 9);
    sentence("a CHANCE (1 .. 99: a weight)");
    range("p10 1 1;t00 1 0 ", ";", new int[] {0, 1, 99, 100}, 8);
    range("p10 1 1;t00 1 0 ", ";", new int[] {-1, 2, 98, 999}, 8);
    sentence("it BUZZES, if what SWINGS is above what it takes to STRIKE");
    FiddleBuzz z = with("p100 1 1;t00 99 0 1;t00 100 0 1;t00 101 0 1;");
    due("100 above 99", z.buzzes(0, 100, 1, 2), 1);
    due("100 not above 100", z.buzzes(1, 100, 1, 2), 0);
    due("100 below 101", z.buzzes(2, 100, 1, 2), 0);
  }

  private static void swingsOfThings() {
    sentence("BUZZ the SWING of its PIECE.");
    FiddleBuzz x = with("p100 1 1;p600 99 1j0 50;t00 1 9 1;t01 1 9 1;t11 1 9 1;t31 1 9 1;t41 1 9 1;");
    due("on the first", x.buzzes(0, 100, 7, 0), 700);
    due("on the second: 700 by 599, and half of 700", x.buzzes(1, 100, 7, 0), 1 + 350);
    sentence("Others as a BUZZ.");
    for (int t = 2; t < 5; t++) due("SEAMED, FITTED, CRACKED: " + t, x.buzzes(t, 100, 7, 0), 351);
    sentence("STRINGED the greater of that at f and at 2 f.");
    FiddleBuzz y = with("p100 1 1;p600 1 1;t20 1 9 1;t21 1 9 1;");
    due("f 50: at 2 f", y.buzzes(0, 50, 1, 0), 100);
    due("f 100: at f", y.buzzes(0, 100, 1, 0), 100);
    due("f 66: 34 off, at 2 f 32", y.buzzes(0, 66, 99, 0), 9900 / 33);
    due("f 67: 33 off, at 2 f 34", y.buzzes(0, 67, 99, 0), 9900 / 34);
    due("f 600: at f", y.buzzes(1, 600, 99, 0), 9900);
    due("f 600 of another", y.buzzes(0, 600, 99, 0), 9900 / 501);
    due("f 1200", y.buzzes(1, 1200, 99, 0), 9900 / 601);
    due("f 1: at 2", y.buzzes(0, 1, 99, 0), 9900 / 99);
    sentence("WITHIN all SWINGS of PIECES by 4, cut.");
    due("3 by 4", with("p100 1 1;t50 1 9 1;").buzzes(0, 132, 1, 0), 0);
    due("4 by 4", with("p100 1 1;t50 1 9 1;").buzzes(0, 124, 1, 0), 1);
    due("3 and 3 by 4: together, then cut", with("p100 1 1;p100 1 1;t50 1 9 1;").buzzes(0, 132, 1, 0), 1);
    due("of PIECES that come later, too", with("p100 1 1;t50 1 9 1;p100 1 1;p100 1 1;p100 1 1;").buzzes(0, 100, 1, 0), 100);
    due("with what they pass", with("p100 1 1;p600 99 1j0 50;t51 1 9 1;").buzzes(0, 100, 1, 0), 150 / 4);
    FiddleBuzz z = with("p100 1 1;p100 1 1;p100 1 1;p100 1 1;p100 1 1;p100 1 1;p100 1 1;p100 1 1;p100 1 1;p100 1 1;", "t50 1 0 1;");
    due("of all ten", z.buzzes(0, 100, 1, 0), 250);
    sentence("WORN as a BUZZ, if PLAYER is 1, else 0.");
    FiddleBuzz w = with("p100 1 1;t60 1 9 1;t70 1 0 1;");
    due("PLAYER 0", w.buzzes(0, 100, 1, 0), 0);
    w.set(1, 1);
    due("PLAYER 1", w.buzzes(0, 100, 1, 0), 100);
    sentence("ROOMED STRONG times (FIGURE and 1), if ROOM is FIGURE modulo 4, else 0.");
    due("whoever plays", w.buzzes(1, 900, 99, 0), 99);
    FiddleBuzz low = with("p100 1 1;t70 1 0 1;t70 1 1 1;t70 1 2 1;t70 1 3 1;t70 1 4 1;");
    FiddleBuzz high = with("p100 1 1;t70 1 5 1;t70 1 6 1;t70 1 7 1;t70 1 8 1;t70 1 9 1;");
    for (int room = 0; room < 4; room++) {
      low.set(2, room);
      high.set(2, room);
      for (int t = 0; t < 5; t++) {
        due("FIGURE " + t + ", ROOM " + room, low.buzzes(t, 500, 99, 0), t % 4 == room ? 99 * (t + 1) : 0);
        due("FIGURE " + (t + 5) + ", ROOM " + room, high.buzzes(t, 500, 1, 0), (t + 5) % 4 == room ? t + 6 : 0);
      }
    }
  }

  private static int strikes(String thing, int dry) {
    FiddleBuzz x = with("p100 99 1;" + thing);
    x.set(0, dry);
    return x.buzzes(0, 100, 1, 1);
  }

  private static void strikesOfThings() {
    sentence("BUZZ GAP.");
    due("the least", strikes("t00 1 9 1;", 20), 1);
    due("the greatest", strikes("t00 999 9 1;", 20), 999);
    sentence("SEAMED GAP less DRY times FIGURE, 1 at least.");
    due("not DRY", strikes("t10 20 1 1;", 0), 20);
    due("2", strikes("t10 20 1 1;", 18), 2);
    due("just 1", strikes("t10 20 1 1;", 19), 1);
    due("0 would be", strikes("t10 20 1 1;", 20), 1);
    due("-179 would be", strikes("t10 1 9 1;", 20), 1);
    due("FIGURE 0", strikes("t10 1 0 1;", 20), 1);
    due("the most less", strikes("t10 999 9 1;", 20), 819);
    sentence("FITTED GAP and 10 FIGURE.");
    due("FIGURE 0", strikes("t30 1 0 1;", 20), 1);
    due("FIGURE 9", strikes("t30 999 9 1;", 20), 1089);
    sentence("CRACKED half of a SEAMED's, cut, 1 at least.");
    due("half of 4", strikes("t40 20 1 1;", 16), 2);
    due("half of 3, cut", strikes("t40 20 1 1;", 17), 1);
    due("half of 2", strikes("t40 20 1 1;", 18), 1);
    due("half of 1", strikes("t40 20 1 1;", 19), 1);
    due("half of what is held at 1", strikes("t40 20 9 1;", 20), 1);
    due("half of GAP 1", strikes("t40 1 0 1;", 0), 1);
    due("half of 999, cut", strikes("t40 999 0 1;", 20), 499);
    due("half of 999 less 180", strikes("t40 999 9 1;", 20), 409);
    sentence("WORN GAP and LOSS NOW of its PIECE.");
    due("with LOSS 99", strikes("t60 999 9 1;", 20), 1098);
    FiddleBuzz x = with("p100 99 1;p100 1 1;t60 999 9 1;t61 1 9 1;t70 999 9 1;");
    due("with LOSS 1", x.buzzes(1, 100, 1, 1), 2);
    x.hand(0);
    due("with LOSS NOW 198", x.buzzes(0, 100, 1, 1), 1197);
    due("another PIECE is held", x.buzzes(1, 100, 1, 1), 2);
    x.set(1, 1);
    due("whoever plays", x.buzzes(0, 100, 1, 1), 1197);
    sentence("ROOMED a BUZZ's.");
    due("GAP alone", x.buzzes(2, 100, 1, 1), 999);
    due("GAP 1", strikes("t70 1 9 1;", 20), 1);
    sentence("Others as those above them.");
    due("STRINGED", strikes("t20 77 9 1;", 20), 77);
    due("WITHIN", strikes("t50 78 9 1;", 20), 78);
  }

  private static void prices() {
    sentence("PRICE of a THING (to mend it): BUZZ 5; SEAMED a BUZZ's and FIGURE; STRINGED three times a BUZZ's; FITTED a BUZZ's less 3; CRACKED a SEAMED's and 40; WITHIN twice a BUZZ's and FIGURE; WORN a BUZZ's less 5; ROOMED a WORN's and 1.");
    int[] least = {5, 5, 15, 2, 45, 10, 0, 1};
    int[] most = {5, 14, 15, 2, 54, 19, 0, 1};
    for (int kind = 0; kind < 8; kind++) {
      FiddleBuzz x = with("p10 1 1;t" + kind + "0 1 0 1;t" + kind + "0 999 9 99;");
      due("KIND " + kind + ", FIGURE 0", x.thing(0, 5), least[kind]);
      due("KIND " + kind + ", FIGURE 9", x.thing(1, 5), most[kind]);
      x.set(0, 20);
      x.hand(0);
      due("KIND " + kind + ", DRY and held", x.thing(1, 5), most[kind]);
    }
  }

  private static void shelves() {
    sentence("SHELVES 0 .. 7 each hold nothing (at first), a THING, a ROW.");
    FiddleBuzz x = with("p10 1 1;t00 1 0 1;t20 1 0 1;");
    for (int d = 1; d < 8; d++) due("nothing at first on " + d, x.put(d, 0, 0), -11);
    due("no SHELF 8", x.keep(8, 1, 0), -1);
    due("no SHELF -1", x.keep(-1, 1, 0), -1);
    for (int d = 0; d < 8; d++) due("a THING on " + d, x.keep(d, 1, d % 2), 0);
    for (int d = 0; d < 8; d++) due("each its own, " + d, x.price(d), d % 2 == 0 ? 5 : 15);
    for (int d = 0; d < 8; d++) due("a ROW on " + d, x.row(d, 2, 1), 0);
    for (int d = 0; d < 8; d++) due("a put on " + d, x.put(d, 0, 100 + d), 0);
    for (int d = 0; d < 8; d++) due("each its own ROW, " + d, x.element(d, 0), 100 + d);
    due("no THING beside the ROW", x.price(0), -12);
    due("a THING in its place", x.keep(0, 1, 1), 0);
    due("no ROW beside the THING", x.put(0, 0, 1), -12);
    due("nothing in its place", x.keep(0, 0, 0), 0);
    due("no ROW is there", x.put(0, 0, 1), -11);
    due("no THING is there", x.price(0), -11);
  }

  private static void rows() {
    sentence("A ROW has a SORT (0 bytes, 1 shorts, 2 ints)");
    FiddleBuzz x = new FiddleBuzz();
    due("SORT -1", x.row(0, -1, 1), -1);
    due("SORT 3", x.row(0, 3, 1), -1);
    int[] kept = {1, 257, 65793};
    for (int sort = 0; sort < 3; sort++) {
      Bench.fill(x, sort, sort, 65793);
      due("65536, 256 and 1 in SORT " + sort, x.element(sort, 0), kept[sort]);
    }
    sentence("0 .. 100 elements, 0 at first");
    for (int sort = 0; sort < 3; sort++) {
      due("none", x.row(3, sort, 0), 0);
      due("no first place", x.put(3, 0, 0), -13);
      due("one", x.row(3, sort, 1), 0);
      due("the first place", x.put(3, 0, 1), 0);
      due("no second", x.put(3, 1, 1), -13);
      due("100", x.row(3, sort, 100), 0);
      due("101", x.row(3, sort, 101), -1);
      due("-1", x.row(3, sort, -1), -14);
    }
    for (int i = 0; i < 100; i++) due("0 at first, " + i, x.element(3, i), 0);
    due("the last place", x.put(3, 99, 7), 0);
    due("no place beyond", x.put(3, 100, 7), -13);
  }

  private static void lowestBits() {
    sentence("what is put in keeps its lowest bits");
    FiddleBuzz x = new FiddleBuzz();
    int[] put = {127, 128, 255, 256, -128, -129, -256, 32767, 32768, 65535, 65536, -32768, -32769, Bench.HIGH, Bench.LOW};
    int[] bytes = {127, -128, -1, 0, -128, 127, 0, -1, 0, -1, 0, 0, -1, -1, 0};
    int[] shorts = {127, 128, 255, 256, -128, -129, -256, 32767, -32768, -1, 0, -32768, 32767, -1, 0};
    for (int sort = 0; sort < 3; sort++) {
      Bench.fill(x, sort, sort, put);
      for (int i = 0; i < put.length; i++) {
        int want = sort == 0 ? bytes[i] : sort == 1 ? shorts[i] : put[i];
        due("put " + put[i] + ", SORT " + sort, x.element(sort, i), want);
      }
    }
  }

  private static void refusalsOfShelves() {
    FiddleBuzz x = with("p10 1 1;t30 1 9 1;");
    x.keep(1, 1, 0);
    x.row(2, 2, 3);
    sentence("-11 nothing is held where something is wanted");
    due("a ROW is wanted", x.put(3, 0, 0), -11);
    due("a THING is wanted", x.price(3), -11);
    sentence("-12 it is of another kind");
    due("a THING, not a ROW", x.put(1, 0, 0), -12);
    due("a ROW, not a THING", x.price(2), -12);
    due("a ROW, not of bytes", x.instrument(2), -12);
    sentence("-13 a place that isn't there (a number that isn't as told, too)");
    due("place 3 of 3", x.put(2, 3, 0), -13);
    due("place -1", x.put(2, -1, 0), -13);
    due("a number of elements", x.copy(2, 0, 2, 0, -1), -13);
    sentence("-14 a size below 0");
    due("-1", x.row(2, 2, -1), -14);
    due("far below", x.row(2, 2, Bench.LOW), -14);
    sentence("-15 a FAILURE that is none");
    due("FITTED", x.toss(1), -15);
  }

  public static void main(String[] args) throws Exception {
    pieces();
    numbersOfPieces();
    waxAndHand();
    settings();
    tonesAndLosses();
    ownSwings();
    swings();
    things();
    swingsOfThings();
    strikesOfThings();
    prices();
    shelves();
    rows();
    lowestBits();
    refusalsOfShelves();
    Bench.end();
  }
}
