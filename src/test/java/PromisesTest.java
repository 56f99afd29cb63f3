/** One method for each promise of the document: ordinary calls, the edges that it names, wrong calls. */
public final class PromisesTest {
  private static final int FAR = -1000000000;
  private static final int LOW = Integer.MIN_VALUE;
  private static final int HIGH = Integer.MAX_VALUE;

  private static int right = 0;
  private static int wrong = 0;

  private static void due(String what, long got, long want) {
    if (got == want) { right++; return; }
    wrong++;
    System.out.println(what + ": answered " + got + ", due is " + want);
  }

  /** Reads a text by SHELF 0. */
  private static int read(FiddleBuzz x, String text) {
    fill(x, 0, 0, text);
    return x.instrument(0);
  }

  private static void fill(FiddleBuzz x, int d, int sort, String text) {
    due("row for a text", x.row(d, sort, text.length()), 0);
    for (int i = 0; i < text.length(); i++) due("put of a text", x.put(d, i, text.charAt(i)), 0);
  }

  private static void fill(FiddleBuzz x, int d, int sort, int[] values) {
    due("row for numbers", x.row(d, sort, values.length), 0);
    for (int i = 0; i < values.length; i++) due("put of a number", x.put(d, i, values[i]), 0);
  }

  private static int[] rowOf(int... values) { return values; }

  private static FiddleBuzz with(String... texts) {
    FiddleBuzz x = new FiddleBuzz();
    for (String text : texts) due("reading " + text, read(x, text) > 0 ? 1 : 0, 1);
    return x;
  }

  /** A BUZZ, one of each other KIND, on one PIECE of TONE 100, LOSS 5: GAPS 50, FIGURES 3. */
  private static FiddleBuzz ofEachKind() {
    return with("p100 5 40;t00 50 3 1;t10 50 3 2;t20 50 3 4;t30 50 3 8;t40 50 3 16;t50 50 3 32;", "t60 50 3 64;");
  }

  /** 0 nothing, 1 IllegalArgumentException, 2 IllegalStateException, 3 another one. */
  private static int thrown(FiddleBuzz x, int d, int i) {
    try {
      x.element(d, i);
      return 0;
    } catch (IllegalArgumentException e) {
      return 1;
    } catch (IllegalStateException e) {
      return 2;
    } catch (RuntimeException e) {
      return 3;
    }
  }

  private static void p1NewObject() {
    FiddleBuzz x = new FiddleBuzz();
    for (int i = 0; i < 6; i++) due("new: count(" + i + ")", x.count(i), 0);
    due("new: piece", x.piece(0, 0), -1);
    due("new: thing", x.thing(0, 0), -1);
    due("new: hand", x.hand(-1), -4);
    for (int i = 0; i < 4; i++) due("new: set(" + i + ")", x.set(i, 0), 0);
    for (int d = 0; d < 8; d++) due("new: price(" + d + ")", x.price(d), -11);
    due("new: restore", x.restore(), -3);
    due("new: wolf", x.wolf(-1), 0);
  }

  private static void p2Instrument() {
    FiddleBuzz x = new FiddleBuzz();
    due("instrument: no SHELF -1", x.instrument(-1), -1);
    due("instrument: no SHELF 8", x.instrument(8), -1);
    due("instrument: nothing", x.instrument(3), -11);
    fill(x, 1, 1, "d1;");
    due("instrument: shorts", x.instrument(1), -12);
    fill(x, 1, 2, "d1;");
    due("instrument: ints", x.instrument(1), -12);
    due("instrument", read(x, "p10 1 1;p600 99 99j0 99;t71 999 9 99;d20;w1;r3;"), 6);
    due("what is read stays", x.element(0, 0), 'p');
    due("instrument: TONE", x.piece(1, 0), 600);
    due("instrument: GAP", x.thing(0, 2), 999);
    due("instrument: DRY", x.set(0, 0), 20);
    due("instrument: PLAYER", x.set(1, 0), 1);
    due("instrument: ROOM", x.set(2, 0), 3);
    due("instrument: more PIECES come behind", read(x, "p20 2 2j1 0;"), 1);
    due("instrument: joined", x.piece(2, 3), 1);
    x.keep(2, 1, 0);
    due("instrument: a THING", x.instrument(2), -12);
  }

  private static void p2FaultsOfKind1() {
    String[] texts = {"", "x", "p", "p100 5 4", "p100 5 40", "p01 5 40;", "p1000 5 40;", "p100  5 40;", "p100 5 40 ;", "p100 5 40j;",
        "p100 5 40j00 5;", "p100 5 40j0 05;", "p100 5 40j0 5j", "t0", "t000 5 5 5;", "t00 5 55 5;", "t00 5 5;", "d;", "d1", "d1;d", "w12;",
        "r;", "r1;;", " d1;", "d1; ", "P10 1 1;", "d-1;", "w1 ;", "t00 0 0 00;", "d001;", "j", "p100 5 40j", "p100 5 40;j"};
    int[] places = {0, 0, 1, 8, 9, 2, 4, 5, 9, 10,
        11, 13, 13, 2, 3, 7, 7, 1, 2, 4, 2,
        1, 3, 0, 3, 0, 1, 2, 9, 2, 0, 10, 10};
    for (int i = 0; i < texts.length; i++) {
      FiddleBuzz x = new FiddleBuzz();
      due("kind 1 of \"" + texts[i] + "\"", read(x, texts[i]), -1000 - places[i]);
    }
    FiddleBuzz x = new FiddleBuzz();
    due("kind 1 ahead of kind 2", read(x, "p9 1 1;d21;x"), -1011);
    x.row(0, 0, 3);
    due("a 0 is no letter", x.instrument(0), -1000);
    x.put(0, 0, 'd');
    x.put(0, 1, '1');
    x.put(0, 2, ';' + 128);
    due("a byte below 0", x.instrument(0), -1002);
    due("nothing came", x.set(0, 0), 0);
  }

  private static void p2FaultsOfKind2() {
    String[] texts = {"p9 1 1;", "p601 1 1;", "p10 0 1;", "p10 100 1;", "p10 1 0;", "p10 1 100;", "p10 1 1j0 5;", "d1;p10 1 1j1 5;",
        "p10 1 1;p10 1 1j0 100;", "p10 1 1;p10 1 1j1 1;", "t00 5 5 5;", "p10 1 1;t80 5 5 5;", "p10 1 1;t90 5 5 5;", "p10 1 1;t01 5 5 5;",
        "p10 1 1;t00 0 5 5;", "p10 1 1;t00 5 5 0;", "p10 1 1;t00 5 5 100;", "d21;", "w2;", "r4;", "d20;r3;w1;w9;d999;"};
    int[] places = {0, 0, 0, 0, 0, 0, 0, 3, 8, 8, 0, 8, 8, 8, 8, 8, 8, 0, 0, 0, 10};
    for (int i = 0; i < texts.length; i++) {
      FiddleBuzz x = new FiddleBuzz();
      due("kind 2 of " + texts[i], read(x, texts[i]), -2000 - places[i]);
      due("nothing came of " + texts[i], x.count(0) + x.count(1) + x.set(0, 0) + x.set(1, 0) + x.set(2, 0), 0);
    }
    FiddleBuzz x = with("p10 1 1;p10 1 1;p10 1 1;p10 1 1;p10 1 1;p10 1 1;p10 1 1;p10 1 1;p10 1 1;", "t00 1 0 1;t00 1 0 1;t00 1 0 1;t00 1 0 1;t00 1 0 1;t00 1 0 1;");
    due("no room for an 11th PIECE", read(x, "p10 1 1;p10 1 1;"), -2008);
    due("the 10th PIECE", read(x, "p10 1 1;"), 1);
    due("ten PIECES", x.count(0), 10);
    due("no room for an 8th THING", read(x, "d1;t09 1 0 1;t09 1 0 1;"), -2013);
    due("the 7th THING", read(x, "t09 1 0 1;"), 1);
    FiddleBuzz y = with("p100 5 40;t00 50 3 1;");
    y.ask(100, 1, false);
    due("p while an ASK is kept", read(y, "d1;p10 1 1;"), -2003);
    due("t while an ASK is kept", read(y, "t00 50 3 1;"), -2000);
    due("d, w, r while an ASK is kept", read(y, "d1;w1;r1;"), 3);
    y.forget();
    due("p, t when ASKS are forgotten", read(y, "p10 1 1;t01 50 3 1;"), 2);
  }

  private static void p3Piece() {
    FiddleBuzz x = with("p100 7 10;p200 8 20j0 30;");
    int[] first = {100, 7, 10, -4, 0, 0, 100, 7};
    int[] second = {200, 8, 20, 0, 30, 20, 134, 16};
    for (int i = 0; i < 8; i++) due("piece(0, " + i + ")", x.piece(0, i), first[i]);
    x.wax(1, 20);
    x.hand(1);
    for (int i = 0; i < 8; i++) due("piece(1, " + i + ")", x.piece(1, i), second[i]);
    due("LOSS NOW of another", x.piece(0, 7), 7);
    x.wax(0, 3);
    due("TONE NOW, cut", x.piece(0, 6), 87);
    due("no PIECE", x.piece(2, 0), -1);
    due("no PIECE below", x.piece(-1, 0), -1);
    due("what below", x.piece(0, -1), -1);
    due("what above", x.piece(0, 8), -1);
    due("far PIECE", x.piece(LOW, 0) + x.piece(HIGH, 0), -2);
  }

  private static void p4Thing() {
    FiddleBuzz x = with("p100 5 40;p100 5 40;t01 11 1 21;t11 12 2 22;t21 13 3 23;t31 14 4 24;t41 15 5 25;t51 16 6 26;", "t61 17 7 27;");
    int[] prices = {5, 7, 15, 2, 50, 16, 0};
    for (int t = 0; t < 7; t++) {
      int[] all = {t, 1, 11 + t, 1 + t, 21 + t, prices[t]};
      for (int i = 0; i < 6; i++) due("thing(" + t + ", " + i + ")", x.thing(t, i), all[i]);
    }
    due("PRICE of ROOMED", with("p100 5 40;t70 1 9 1;").thing(0, 5), 1);
    due("no THING", x.thing(7, 0), -1);
    due("no THING below", x.thing(-1, 0), -1);
    due("what below", x.thing(0, -1), -1);
    due("what above", x.thing(0, 6), -1);
  }

  private static void p5Wax() {
    FiddleBuzz x = with("p100 5 40;");
    due("wax", x.wax(0, 20), 0);
    due("wax again", x.wax(0, 7), 20);
    due("too much", x.wax(0, 21), -1);
    due("too little", x.wax(0, -1), -1);
    due("no PIECE", x.wax(1, 3), -1);
    due("no PIECE below", x.wax(-1, 3), -1);
    due("refused changes nothing", x.wax(0, 0), 7);
  }

  private static void p6Hand() {
    FiddleBuzz x = with("p100 5 40;p100 6 40;");
    due("held none", x.hand(1), -4);
    due("no PIECE", x.hand(2), FAR - 1);
    due("no PIECE below", x.hand(-2), FAR - 1);
    due("held 1", x.hand(0), 1);
    due("held 0", x.hand(-1), 0);
    due("held none again", x.hand(-1), -4);
  }

  private static void p7Set() {
    FiddleBuzz x = new FiddleBuzz();
    int[] least = {0, 0, 0, -9};
    int[] most = {20, 1, 3, 9};
    for (int w = 0; w < 4; w++) {
      due("set at first", x.set(w, most[w]), 0);
      due("set above", x.set(w, most[w] + 1), FAR - 1);
      due("set below", x.set(w, least[w] - 1), FAR - 1);
      due("set most", x.set(w, least[w]), most[w]);
      due("set least", x.set(w, 0), least[w]);
    }
    due("what below", x.set(-1, 0), FAR - 1);
    due("what above", x.set(4, 0), FAR - 1);
    due("far off", x.set(HIGH, LOW), FAR - 1);
  }

  private static void p8Swing() {
    FiddleBuzz x = with("p100 5 40;p200 10 20j0 50;p110 3 5j1 95;");
    due("at its tone", x.swing(0, 100, 7), 140);
    due("below, cut", x.swing(0, 97, 7), 87);
    due("above", x.swing(0, 103, 7), 87);
    due("joined: 700/110 and 50 of 140", x.swing(1, 100, 7), 76);
    due("joined twice: 700/13 and 95 of 76", x.swing(2, 100, 7), 53 + 72);
    x.set(3, 9);
    due("POST, held to 99", x.swing(2, 100, 7), 53 + 99 * (6 + 59 * 140 / 100) / 100);
    x.set(3, -9);
    due("POST below 0", x.swing(1, 100, 7), 6 + 41 * 140 / 100);
    due("a PASS held to 0", with("p100 5 40;p200 10 20j0 4;").swing(1, 100, 7), 6 + 4 * 140 / 100);
    FiddleBuzz y = with("p100 5 40;p200 10 20j0 4;");
    y.set(3, -5);
    due("a PASS below 0 passes nothing", y.swing(1, 100, 7), 6);
    y.hand(0);
    due("a HAND", y.swing(0, 100, 7), 70);
    y.wax(0, 20);
    due("WAX: TONE NOW 80", y.swing(0, 80, 7), 70);
    due("at 1200", y.swing(0, 1200, 99), 9900 / 1130);
    due("at 1", y.swing(0, 1, 99), 9900 / 89);
    due("no PIECE", y.swing(2, 100, 7), -1);
    due("f 0", y.swing(0, 0, 7), -1);
    due("f 1201", y.swing(0, 1201, 7), -1);
    due("STRONG 0", y.swing(0, 100, 0), -1);
    due("STRONG 100", y.swing(0, 100, 100), -1);
  }

  private static void p9Buzzes() {
    FiddleBuzz x = ofEachKind();
    // At 100, STRONG 5: SWING 100.
    int[] swings = {100, 100, 100, 100, 100, 25, 0};
    int[] strikes = {50, 50, 50, 80, 25, 50, 55};
    int[] buzzes = {1, 1, 1, 1, 1, 0, 0};
    for (int t = 0; t < 7; t++) {
      due("SWINGS of " + t, x.buzzes(t, 100, 5, 0), swings[t]);
      due("STRIKES of " + t, x.buzzes(t, 100, 5, 1), strikes[t]);
      due("BUZZES of " + t, x.buzzes(t, 100, 5, 2), buzzes[t]);
    }
    x.set(0, 5);
    x.set(1, 1);
    x.hand(0);
    int[] later = {50, 35, 50, 80, 17, 50, 60};
    int[] held = {50, 50, 50, 50, 50, 12, 50};
    int[] then = {0, 1, 0, 0, 1, 0, 0};
    for (int t = 0; t < 7; t++) {
      due("SWINGS of " + t + ", held", x.buzzes(t, 100, 5, 0), held[t]);
      due("STRIKES of " + t + ", DRY 5", x.buzzes(t, 100, 5, 1), later[t]);
      due("BUZZES of " + t + " then", x.buzzes(t, 100, 5, 2), then[t]);
    }
    x.set(0, 20);
    due("SEAMED, 1 at least", x.buzzes(1, 100, 5, 1), 1);
    due("CRACKED, 1 at least", x.buzzes(4, 100, 5, 1), 1);
    x.hand(-1);
    due("STRINGED at 2 f", x.buzzes(2, 50, 5, 0), 100);
    due("STRINGED beyond 1200", with("p100 5 40;t20 5 5 5;").buzzes(0, 1200, 99, 0), 8);
    due("no THING", x.buzzes(7, 100, 5, 0), -1);
    due("no THING below", x.buzzes(-1, 100, 5, 0), -1);
    due("f", x.buzzes(0, 0, 5, 0) + x.buzzes(0, 1201, 5, 0), -2);
    due("STRONG", x.buzzes(0, 100, 0, 0) + x.buzzes(0, 100, 100, 0), -2);
    due("what", x.buzzes(0, 100, 5, -1) + x.buzzes(0, 100, 5, 3), -2);
  }

  private static void p9RoomAndWithin() {
    FiddleBuzz x = with("p100 5 40;p100 5 40j0 50;t70 5 9 5;t71 35 6 5;t50 500 0 5;");
    due("ROOMED elsewhere", x.buzzes(0, 100, 7, 0), 0);
    x.set(2, 1);
    due("ROOMED, 9 modulo 4", x.buzzes(0, 100, 7, 0), 70);
    due("ROOMED takes its GAP", x.buzzes(0, 100, 7, 1), 5);
    due("ROOMED elsewhere too", x.buzzes(1, 100, 7, 0), 0);
    x.set(2, 2);
    due("ROOMED, 6 modulo 4", x.buzzes(1, 900, 5, 0), 35);
    due("as much as it takes is not above", x.buzzes(1, 900, 5, 2), 0);
    due("above", x.buzzes(1, 900, 6, 2), 1);
    due("WITHIN: 140 and 210, by 4, cut", x.buzzes(2, 100, 7, 0), 87);
    due("WITHIN: 7 and 10, by 4, cut", x.buzzes(2, 109, 1, 0), 4);
    due("WITHIN: 15, by 4, cut", with("p100 5 40;t00 5 9 5;t50 5 0 5;").buzzes(1, 135, 6, 0), 3);
    due("a PLAYER is nothing to a room", x.set(1, 1) + x.buzzes(0, 100, 7, 0), 0);
  }

  private static void p10Heard() {
    FiddleBuzz x = ofEachKind();
    due("heard", x.heard(100, 5), 31);
    x.set(1, 1);
    due("heard, PLAYER 1", x.heard(100, 5), 95);
    due("heard nothing", x.heard(900, 5), 0);
    due("no THINGS", new FiddleBuzz().heard(1200, 99), 0);
    due("f", x.heard(0, 5) + x.heard(1201, 5), -2);
    due("STRONG", x.heard(100, 0) + x.heard(100, 100), -2);
  }

  private static void p11Bands() {
    FiddleBuzz x = with("p100 5 40;p600 5 40j0 99;t00 50 0 1;t20 50 0 1;t01 150 0 1;t01 1 0 1;t60 1 0 1;");
    // 500 by (5 and off) above 50: off 4 at most.
    due("how many", x.bands(0, 5, -1, 0), 1);
    due("how many, what 1", x.bands(0, 5, -1, 1), 1);
    due("first", x.bands(0, 5, 0, 0), 96);
    due("last", x.bands(0, 5, 0, 1), 104);
    due("none more", x.bands(0, 5, 1, 0), -4);
    due("of a STRINGED two", x.bands(1, 5, -1, 0), 2);
    due("its first", x.bands(1, 5, 0, 0), 48);
    due("its first's last", x.bands(1, 5, 0, 1), 52);
    due("its second", x.bands(1, 5, 1, 0), 96);
    due("far", x.bands(1, 5, HIGH, 0), -4);
    due("up to 600: first", x.bands(2, 10, 1, 0), 599);
    due("up to 600: last", x.bands(2, 10, 1, 1), 600);
    due("from 1: first", x.bands(3, 99, 0, 0), 1);
    due("from 1: last", x.bands(3, 99, 0, 1), 600);
    due("no BAND", x.bands(4, 99, -1, 0), 0);
    due("no BAND's first", x.bands(4, 99, 0, 0), -4);
    due("no THING", x.bands(5, 5, -1, 0) + x.bands(-1, 5, -1, 0), -2);
    due("STRONG", x.bands(0, 0, -1, 0) + x.bands(0, 100, -1, 0), -2);
    due("i", x.bands(0, 5, -2, 0), -1);
    due("what", x.bands(0, 5, -1, 2) + x.bands(0, 5, -1, -1) + x.bands(0, 5, 7, 2), -3);
  }

  private static void p12Loudest() {
    FiddleBuzz x = with("p100 5 40;p300 50 40;p10 99 40;p600 1 40;");
    due("loudest", x.loudest(0, 9), 100);
    due("of several the least: 100 by 50 .. is 2 at 300 alone", x.loudest(1, 1), 300);
    due("of several the least: 200 by 99 .. 100 is 2, 1", x.loudest(2, 1), 9);
    due("the highest", x.loudest(3, 99), 600);
    x.wax(0, 20);
    due("WAX", x.loudest(0, 9), 80);
    FiddleBuzz y = with("p10 99 1;");
    y.wax(0, 20);
    due("TONE NOW 1: from 1 on, not from 0", y.loudest(0, 1), 1);
    due("no PIECE", x.loudest(4, 9) + x.loudest(-1, 9), -2);
    due("STRONG", x.loudest(0, 0) + x.loudest(0, 100), -2);
  }

  private static void p13Softest() {
    FiddleBuzz x = with("p100 5 40;t00 50 0 1;t00 1 0 1;t60 1 0 1;");
    due("softest: 20 STRONG above 50", x.softest(0, 100), 3);
    due("softest 1", x.softest(1, 100), 1);
    due("off by 1000", x.softest(1, 1095), 20);
    due("off by 1095: 9900 by 1100", with("p100 5 40;t00 8 0 1;").softest(0, 1195), 99);
    due("never", x.softest(2, 100), -4);
    due("never so far off", x.softest(0, 1200), -4);
    due("no THING", x.softest(3, 100) + x.softest(-1, 100), -2);
    due("f", x.softest(0, 0) + x.softest(0, 1201), -2);
  }

  private static void p14Ask() {
    FiddleBuzz x = with("p100 5 40;");
    due("no THINGS", x.ask(100, 5, true), -3);
    due("no THINGS, no f", x.ask(0, 5, true), -1);
    due("a THING", read(x, "t00 50 0 1;"), 1);
    for (int i = 1; i <= 24; i++) due("ask " + i, x.ask(100, 5, true), i);
    due("no room", x.ask(100, 5, true), -2);
    due("f 0 ahead of no room", x.ask(0, 5, true), -1);
    due("f 1201", x.ask(1201, 5, true), -1);
    due("STRONG 0", x.ask(100, 0, true), -1);
    due("STRONG 100", x.ask(100, 100, true), -1);
    due("refused ones are not kept", x.count(2), 24);
  }

  private static void p14AsThingsWere() {
    FiddleBuzz x = with("p100 5 40;p100 5 40j0 50;t00 50 0 1;t10 110 2 1;t60 50 0 1;t70 50 9 1;t01 140 0 1;");
    due("heard at first", x.heard(100, 5), 17);
    x.ask(100, 5, true);
    due("fits at first", x.fits(), 17);
    x.forget();
    x.set(0, 6);
    x.ask(100, 5, true);
    x.set(0, 0);
    due("DRY as it was", x.fits(), 19);
    x.set(1, 1);
    x.ask(100, 5, true);
    x.set(1, 0);
    due("PLAYER as it was", x.fits(), 17);
    x.forget();
    x.set(1, 1);
    x.ask(100, 5, true);
    x.set(1, 0);
    due("PLAYER as it was, alone", x.fits(), 21);
    x.forget();
    x.set(2, 1);
    x.ask(100, 6, true);
    x.set(2, 0);
    due("ROOM as it was", x.fits(), 27);
    x.forget();
    x.hand(0);
    x.ask(100, 5, false);
    x.hand(-1);
    due("HAND as it was", x.fits(), 31);
    x.forget();
    x.wax(0, 20);
    x.ask(100, 5, false);
    x.wax(0, 0);
    due("WAX as it was", x.fits(), 31);
    x.forget();
    x.set(3, -9);
    x.ask(100, 5, false);
    x.set(3, -8);
    due("POST as it was: 100 and 41 of it is above 140", x.fits(), 14);
    x.forget();
    x.set(3, -9);
    x.wax(1, 20);
    x.ask(100, 5, false);
    x.set(3, 9);
    x.wax(1, 0);
    due("POST, WAX as they were", x.fits() & 16, 16);
  }

  private static void p15Forget() {
    FiddleBuzz x = with("p100 5 40;t00 50 0 1;");
    due("none", x.forget(), 0);
    x.ask(100, 5, false);
    x.ask(100, 5, true);
    due("two", x.forget(), 2);
    due("none are left", x.count(2), 0);
    due("all FIT then", x.fits(), 1);
    due("the next is the first", x.ask(100, 5, true), 1);
  }

  private static void p16Fits() {
    FiddleBuzz x = with("p100 5 40;p300 5 40;t00 50 0 1;t01 50 0 1;t00 99 0 1;");
    due("no ASKS: all", x.fits(), 7);
    x.ask(100, 5, true);
    due("at 100", x.fits(), 5);
    x.ask(100, 4, false);
    due("softer", x.fits(), 4);
    x.ask(300, 9, true);
    due("none", x.fits(), 0);
    due("no THINGS", with("p100 5 40;").fits(), -3);
  }

  private static void p17Both() {
    FiddleBuzz x = with("p100 5 40;p300 5 40;t00 50 0 1;t01 50 0 1;t00 99 0 1;");
    due("no ASKS", x.both(0, 1), 1);
    x.ask(100, 5, true);
    x.ask(300, 5, true);
    due("none FITS alone", x.fits(), 0);
    due("two do", x.both(0, 1), 1);
    due("as well the other way", x.both(1, 2), 1);
    due("these don't", x.both(0, 2), 0);
    x.ask(100, 3, false);
    due("one BUZZES where none was heard", x.both(0, 1), 0);
    due("these still", x.both(2, 1), 1);
    due("one twice", x.both(1, 1), -1);
    due("no THING", x.both(0, 3) + x.both(3, 0) + x.both(-1, 0) + x.both(0, -1), -4);
  }

  private static void p18Odds() {
    FiddleBuzz x = with("p100 5 40;p300 5 40;t00 50 0 6;t01 50 0 9;t00 99 0 12;");
    due("above", x.odds(0, false, 0), 2);
    due("below", x.odds(0, false, 1), 9);
    due("two above: 54 and 72 of 234", x.odds(0, true, 0), 7);
    due("two below", x.odds(0, true, 1), 13);
    x.ask(100, 5, true);
    due("doesn't FIT: above", x.odds(1, false, 0), 0);
    due("doesn't FIT: below", x.odds(1, false, 1), 1);
    due("FITS", x.odds(2, false, 0) * 10 + x.odds(2, false, 1), 23);
    x.ask(300, 5, true);
    due("nothing FITS alone", x.odds(0, false, 0), -4);
    due("nothing FITS alone, below", x.odds(0, false, 1), -4);
    due("pairs 0 1, 1 2 do: 54 of 162", x.odds(0, true, 0) * 10 + x.odds(0, true, 1), 13);
    due("in all", x.odds(1, true, 0) * 10 + x.odds(1, true, 1), 11);
    x.ask(300, 5, false);
    due("no pair", x.odds(1, true, 0), -4);
    due("one THING has no pair", with("p100 5 40;t00 50 0 6;").odds(0, true, 1), -4);
    due("no THING", x.odds(3, false, 0) + x.odds(-1, true, 0), -2);
    due("part", x.odds(0, false, 2) + x.odds(0, true, -1), -2);
  }

  private static void p19Which() {
    FiddleBuzz x = with("p100 5 40;p300 5 40;t00 50 0 6;t01 50 0 9;t00 99 0 9;");
    due("of several the least", x.which(), 1);
    x.ask(100, 5, true);
    due("that FITS", x.which(), 2);
    x.ask(100, 5, false);
    due("none FITS", x.which(), -4);
    due("no THINGS", new FiddleBuzz().which(), -4);
    due("the first, CHANCE 1", with("p100 5 40;t00 50 0 1;t00 50 0 1;").which(), 0);
  }

  private static void p20Next() {
    FiddleBuzz x = with("p100 5 40;p300 5 40;t00 50 0 5;t01 50 0 6;t00 60 0 10;");
    // At 100 CHANCES 15 of 21 are 4.5 off, at 300 they are 6; farther off none BUZZES.
    due("least off from half", x.next(5), 100);
    x.ask(100, 5, true);
    due("of 15 left: 0 or 15 are as far off, the least tone", x.next(5), 10);
    due("softer: 10 alone can't, 5 can", x.next(3), 100);
    x.ask(100, 5, false);
    due("none FITS", x.next(5), -4);
    due("STRONG ahead of it", x.next(0) + x.next(100), -2);
    due("no THINGS", new FiddleBuzz().next(5), -4);
    FiddleBuzz y = with("p600 5 40;p595 9 9;t00 50 0 5;t01 50 0 5;");
    due("600 is looked at", y.next(5), 600);
    FiddleBuzz z = with("p100 5 40;p200 5 40;t00 50 0 5;t01 50 0 5;");
    due("of several the least", z.next(5), 100);
    z.set(3, 9);
    z.wax(0, 20);
    due("as it is now", z.next(5), 80);
  }

  private static void p21Fewest() {
    FiddleBuzz x = with("p100 5 40;p300 5 40;p500 5 40;t00 50 0 5;t01 50 0 5;t02 50 0 5;t00 90 0 5;");
    fill(x, 1, 1, rowOf(100, 300, 500));
    due("STRONG 5: 0 and 3 are as one", x.fewest(1, 5), 2);
    due("STRONG 4: 3 is silent", x.fewest(1, 4), 3);
    fill(x, 2, 2, rowOf(900, 901, 902, 903, 904, 905));
    due("no tone tells any", x.fewest(2, 5), 0);
    fill(x, 3, 0, rowOf());
    due("no tones", x.fewest(3, 5), 0);
    fill(x, 4, 1, rowOf(100, 300, 500, 700, 900, 1100, 1200));
    due("more than 6", x.fewest(4, 5), -13);
    fill(x, 5, 1, rowOf(100, 0));
    due("no tone 0", x.fewest(5, 5), -13);
    fill(x, 5, 1, rowOf(1201));
    due("no tone 1201", x.fewest(5, 5), -13);
    due("no SHELF", x.fewest(8, 5) + x.fewest(-1, 5), -2);
    due("STRONG", x.fewest(1, 0) + x.fewest(1, 100), -2);
    due("STRONG ahead of what the SHELF holds", x.fewest(7, 0), -1);
    due("nothing", x.fewest(7, 5), -11);
    x.keep(7, 1, 0);
    due("a THING", x.fewest(7, 5), -12);
    x.ask(300, 5, true);
    due("one is left", x.fewest(1, 5), 0);
    x.forget();
    x.ask(100, 4, true);
    due("the first is left", x.fits() * 10 + x.fewest(1, 5), 10);
    x.forget();
    x.ask(300, 5, true);
    x.ask(300, 5, false);
    due("none FITS", x.fewest(1, 5), -4);
    due("none FITS, refused ahead of it", x.fewest(4, 5), -13);
    due("no THINGS", fewestOfNone(), -4);
    due("chosen best: the tone that halves four", fewestChosenBest(), 2);
    due("seven alike but one each", fewestOneByOne(), 6);
  }

  private static int fewestOfNone() {
    FiddleBuzz x = new FiddleBuzz();
    x.row(0, 1, 0);
    return x.fewest(0, 5);
  }

  private static int fewestChosenBest() {
    FiddleBuzz x = with("p100 5 40;t00 10 0 1;t00 30 0 1;t00 60 0 1;t00 90 0 1;");
    // SWINGS at 100, 105, 115 of STRONG 5 are 100, 50, 25: they tell 0, 1, 2, 3 by halves.
    fill(x, 1, 1, rowOf(115, 105, 102));
    return x.fewest(1, 5);
  }

  private static int fewestOneByOne() {
    FiddleBuzz x = with("p100 1 9;p200 1 9;p300 1 9;p400 1 9;p500 1 9;p600 1 9;p50 1 9;", "t00 80 0 1;t01 80 0 1;t02 80 0 1;t03 80 0 1;t04 80 0 1;t05 80 0 1;t06 80 0 1;");
    fill(x, 1, 1, rowOf(100, 200, 300, 400, 500, 600));
    return x.fewest(1, 1);
  }

  private static void p22Shift() {
    FiddleBuzz x = with("p100 5 40;");
    due("shift by 20", x.shift(0, 20), 20);
    due("by nothing", x.shift(0, 0), 0);
    x.wax(0, 10);
    due("more: 11 already, 20 then", x.shift(0, 10), 9);
    due("beyond 20 in all", x.shift(0, 11), -3);
    due("n", x.shift(0, 21) + x.shift(0, -1), -2);
    due("no PIECE", x.shift(1, 5) + x.shift(-1, 5), -2);
    due("nothing changed", x.piece(0, 5), 10);
  }

  private static void p23Lives() {
    FiddleBuzz x = with("p100 5 40;p200 5 40;p300 5 40;");
    // By 20 more: 20, 40, 60.
    due("just so", x.lives(20, 40, 0), 2);
    due("give or take 20", x.lives(20, 40, 20), 7);
    due("give or take 19", x.lives(20, 40, 19), 2);
    due("below 0", x.lives(0, -3, 3), 7);
    due("any", x.lives(0, LOW, 99) + x.lives(0, HIGH, 99), 0);
    x.wax(1, 1);
    due("more than 20 doesn't count", x.lives(20, 40, 99), 5);
    due("n", x.lives(21, 0, 0) + x.lives(-1, 0, 0), -2);
    due("m", x.lives(0, 0, 100) + x.lives(0, 0, -1), -2);
    due("no PIECES", new FiddleBuzz().lives(1, 1, 1), 0);
  }

  private static void p24SeamOrCrack() {
    FiddleBuzz x = with("p100 5 40;p100 5 40;t10 50 2 5;t40 50 2 5;t11 50 2 5;t10 50 2 5;");
    // SWING 20 STRONG; the crack STRIKES above 25, the seam above 50.
    due("crack first", x.seamOrCrack(0, 1, 100), 2);
    due("as well the other way", x.seamOrCrack(1, 0, 100), 2);
    due("alike", x.seamOrCrack(0, 3, 100), -4);
    due("too far off", x.seamOrCrack(0, 1, 1200), -4);
    x.set(0, 20);
    due("as it is now: 10, 5", x.seamOrCrack(0, 1, 200), 7);
    due("at STRONG 1: 20", with("p100 5 40;t00 19 0 1;t00 20 0 1;").seamOrCrack(0, 1, 100), 1);
    due("at STRONG 99: 9900 by 990", with("p100 5 40;t00 10 0 1;t00 9 0 1;").seamOrCrack(0, 1, 1085), 99);
    due("one twice", x.seamOrCrack(1, 1, 100), -1);
    due("not on one PIECE", x.seamOrCrack(0, 2, 100), -1);
    due("no THING", x.seamOrCrack(0, 4, 100) + x.seamOrCrack(-1, 0, 100), -2);
    due("f", x.seamOrCrack(0, 1, 0) + x.seamOrCrack(0, 1, 1201), -2);
  }

  private static void p25Length() {
    FiddleBuzz x = with("p100 5 40;t00 50 0 5;t10 50 2 5;t60 7 0 5;");
    due("no ASKS: least", x.length(0, 0), 1);
    due("no ASKS: greatest", x.length(0, 1), 999);
    x.ask(100, 5, true);
    due("heard: least", x.length(0, 0), 1);
    due("heard: greatest", x.length(0, 1), 99);
    x.ask(100, 4, false);
    due("not heard: least", x.length(0, 0), 80);
    due("not heard: greatest", x.length(0, 1), 99);
    due("never SWINGS", x.length(2, 0), -4);
    x.set(0, 10);
    x.ask(100, 5, false);
    x.set(0, 0);
    due("a BUZZ can't be both", x.length(0, 1), -4);
    x.forget();
    x.set(0, 10);
    x.ask(100, 5, true);
    x.set(0, 0);
    due("SEAMED, DRY as it was", x.length(1, 1), 119);
    x.forget();
    x.set(1, 1);
    x.hand(0);
    x.ask(100, 5, true);
    x.hand(-1);
    x.set(1, 0);
    due("WORN: 50 above GAP and 10", x.length(2, 1), 39);
    due("its own GAP stays", x.thing(2, 2), 7);
    due("no THING", x.length(3, 0) + x.length(-1, 0), -2);
    due("what", x.length(0, 2) + x.length(0, -1), -2);
  }

  private static void p26Friday() {
    FiddleBuzz x = ofEachKind();
    fill(x, 1, 1, rowOf(900, 100));
    due("price", x.friday(1, 5, 0), 5 + 8 + 15 + 2 + 48);
    due("set", x.friday(1, 5, 1), 31);
    x.set(1, 1);
    fill(x, 4, 1, rowOf(100, 900));
    due("WORN for nothing", x.friday(4, 5, 0), 78);
    due("WORN in the set", x.friday(1, 5, 1), 95);
    fill(x, 2, 2, rowOf());
    due("no tones", x.friday(2, 5, 0) + x.friday(2, 5, 1), 0);
    x.row(3, 1, 100);
    due("a 0 is no tone", x.friday(3, 5, 0), -13);
    for (int i = 0; i < 100; i++) x.put(3, i, 1101 + i);
    due("100 tones", x.friday(3, 5, 1), 0);
    x.put(3, 99, 1201);
    due("1201 is none", x.friday(3, 5, 1), -13);
    due("what", x.friday(1, 5, 2) + x.friday(1, 5, -1), -2);
    due("what ahead of nothing", x.friday(7, 5, 2), -1);
    due("STRONG", x.friday(1, 0, 0) + x.friday(1, 100, 0), -2);
    due("no SHELF", x.friday(8, 5, 0) + x.friday(-1, 5, 0), -2);
    due("nothing", x.friday(7, 5, 0), -11);
    x.keep(7, 1, 0);
    due("a THING", x.friday(7, 5, 0), -12);
  }

  private static void p27Wolf() {
    FiddleBuzz x = with("p100 5 40;p105 5 40j0 5;p106 5 40j0 5;p100 5 40j1 5;p100 5 40;p99 5 40j0 5;");
    due("how many", x.wolf(-1), 3);
    due("first", x.wolf(0), 1);
    due("by a, then b", x.wolf(1), 5);
    due("third", x.wolf(2), 13);
    due("none more", x.wolf(3), -4);
    due("i", x.wolf(-2) + x.wolf(LOW), -2);
    due("far", x.wolf(HIGH), -4);
    x.wax(2, 1);
    due("TONES NOW", x.wolf(-1), 4);
    due("between", x.wolf(1), 2);
    due("no PIECES", new FiddleBuzz().wolf(-1), 0);
    due("no first", new FiddleBuzz().wolf(0), -4);
  }

  private static void p28Beats() {
    FiddleBuzz x = with("p100 5 40;p105 5 40j0 5;p100 5 40j0 5;p99 5 40j0 5;p103 5 40j0 5;");
    due("5 apart", x.beats(0), 120);
    due("0 apart", x.beats(1), 600);
    due("1 apart", x.beats(2), 600);
    due("3 apart", x.beats(3), 200);
    due("none more", x.beats(4), -4);
    due("of 2 and 3", with("p100 5 40;p200 5 40;p300 5 40;p304 5 40j2 5;p500 5 40j1 5;").beats(0), 150);
    due("of 4 and 5", with("p10 5 40;p20 5 40;p30 5 40;p40 5 40;p50 5 40;p52 5 40j4 5;").beats(0), 300);
    due("i", x.beats(-1) + x.beats(LOW), -2);
    x.wax(1, 2);
    due("TONES NOW: 103", x.beats(0), 200);
  }

  private static void p29Ends() {
    due("no PIECES", new FiddleBuzz().ends(0), -3);
    due("no PIECES, what", new FiddleBuzz().ends(2), -1);
    FiddleBuzz x = with("p100 5 40;p200 5 40j0 5;p204 5 40j1 5;");
    due("2 more WAX put 200 to 196: 8 off", x.ends(0), 1);
    due("on PIECE 1", x.ends(1), 1);
    x.wax(1, 5);
    due("no WOLF now", x.wolf(-1), 0);
    due("0 in place of nothing", x.ends(0), 0);
    due("on the first", x.ends(1), 0);
    due("what", x.ends(-1) + x.ends(2), -2);
    due("nothing changed", x.piece(1, 5), 5);
    FiddleBuzz y = with("p10 5 40;p10 5 40j0 5;p10 5 40j0 5;p20 5 40;p20 5 40j3 5;");
    due("none ends all", y.ends(0), -4);
    due("none ends all, what 1", y.ends(1), -4);
    FiddleBuzz z = with("p100 5 40;p100 5 40j0 5;");
    z.wax(0, 20);
    due("no WOLF with 0 on PIECE 1, as it is", z.ends(0) * 10 + z.ends(1), 1);
    FiddleBuzz v = with("p21 5 99;p25 5 99j0 5;");
    due("no n up to 19, 20 on PIECE 0: 21 to 20 is 5 off", v.ends(0) * 10 + v.ends(1), -44);
    FiddleBuzz u = with("p55 5 99;p56 5 99j0 5;");
    due("n 20 alone: 55 to 50 is 6 off", u.ends(0) * 10 + u.ends(1), 200);
    FiddleBuzz w = with("p60 5 40;p62 5 40j0 5;");
    due("n 5 on PIECE 0 ends it", w.ends(0) * 10 + w.ends(1), 60);
  }

  private static void p30Rattles() {
    FiddleBuzz x = with("p100 5 40;p300 5 40;t00 50 0 5;t01 50 0 5;t20 50 0 5;t60 1 0 1;");
    fill(x, 1, 1, rowOf(900, 50, 100, 300, 101));
    due("how many: 100 and 300", x.rattles(1, 5, 0), 2);
    due("which, the least of several", x.rattles(1, 5, 1), 12);
    fill(x, 2, 1, rowOf(100, 900));
    due("the first tone", x.rattles(2, 5, 1), 1);
    fill(x, 2, 1, rowOf(900, 901));
    due("nothing to find", x.rattles(2, 5, 0) * 10 + x.rattles(2, 5, 1), 0);
    fill(x, 3, 0, rowOf());
    due("no tones", x.rattles(3, 5, 0) * 10 + x.rattles(3, 5, 1), 0);
    fill(x, 4, 1, rowOf(900, 900, 900, 900, 900, 900, 900, 900, 300, 100));
    due("ten", x.rattles(4, 5, 1), 768);
    fill(x, 5, 1, rowOf(900, 900, 900, 900, 900, 900, 900, 900, 300, 100, 900));
    due("eleven", x.rattles(5, 5, 1), -13);
    fill(x, 5, 1, rowOf(100, 1201));
    due("no tone 1201", x.rattles(5, 5, 1), -13);
    fill(x, 5, 1, rowOf(0));
    due("no tone 0", x.rattles(5, 5, 1), -13);
    fill(x, 5, 0, rowOf(100, -100));
    due("no tone below 0", x.rattles(5, 5, 1), -13);
    due("what", x.rattles(1, 5, 2) + x.rattles(1, 5, -1), -2);
    due("STRONG", x.rattles(1, 0, 0) + x.rattles(1, 100, 0), -2);
    due("no SHELF", x.rattles(8, 5, 0) + x.rattles(-1, 5, 0), -2);
    due("nothing", x.rattles(7, 5, 0), -11);
    x.keep(7, 1, 0);
    due("a THING", x.rattles(7, 5, 0), -12);
  }

  private static void p31Harm() {
    FiddleBuzz x = ofEachKind();
    // SEAMED 50 to 44; CRACKED 25 to 22.
    due("two weeks", x.harm(2), 6 + 3);
    due("none", x.harm(0), 0);
    due("twenty: 50 to 1, 25 to 1", x.harm(20), 49 + 24);
    x.set(0, 15);
    due("5 to 1, 2 to 1 and DRY 20 at most", x.harm(20), 4 + 1);
    due("n", x.harm(21) + x.harm(-1), -2);
    due("nothing changed", x.set(0, 0), 15);
    FiddleBuzz y = with("p100 5 40;t10 999 1 5;");
    y.set(0, 15);
    due("DRY 20 at most", y.harm(20), 5);
    due("no THINGS", new FiddleBuzz().harm(5), 0);
  }

  private static void p32Hair() {
    FiddleBuzz x = with("p100 5 40;p200 10 20j0 50;");
    // SWING of PIECE 0 at 100, STRONG 5: 100.
    due("more", x.hair(1, 100, 5, 9), 9);
    due("less", x.hair(1, 100, 5, -9), -9);
    due("not joined", x.hair(0, 100, 5, 9), 0);
    x.hand(0);
    x.wax(0, 20);
    due("HAND, WAX as they are", x.hair(1, 80, 6, 9), 5);
    x.hand(-1);
    x.wax(0, 0);
    due("beyond 9", x.hair(1, 100, 5, 10), FAR - 3);
    due("beyond -9", x.hair(1, 100, 5, -10), FAR - 3);
    x.set(3, -9);
    due("all the way", x.hair(1, 100, 5, 18), 18);
    due("beyond -9 from there", x.hair(1, 100, 5, -1), FAR - 3);
    due("n", x.hair(1, 100, 5, 19), FAR - 1);
    due("n below", x.hair(1, 100, 5, -19), FAR - 1);
    due("no PIECE", x.hair(2, 100, 5, 0), FAR - 1);
    due("no PIECE ahead of beyond", x.hair(-1, 100, 5, -1), FAR - 1);
    due("f", x.hair(1, 0, 5, 0), FAR - 1);
    due("f above", x.hair(1, 1201, 5, 0), FAR - 1);
    due("STRONG", x.hair(1, 100, 0, 0), FAR - 1);
    due("STRONG above", x.hair(1, 100, 100, 0), FAR - 1);
    due("nothing changed", x.set(3, 0), -9);
  }

  private static void p33Judge() {
    FiddleBuzz x = with("p10 5 40;t00 50 0 5;");
    // SWINGS at 10, 20, 30 of STRONG 5: 100, 33, 20.
    fill(x, 1, 1, rowOf(100, 33, 20));
    due("all so", x.judge(0, 5, 1), -4);
    x.put(1, 1, 34);
    due("the second isn't", x.judge(0, 5, 1), 1);
    x.put(1, 1, -32768);
    due("skipped in shorts", x.judge(0, 5, 1), -4);
    x.put(1, 0, -32767);
    due("that isn't", x.judge(0, 5, 1), 0);
    fill(x, 2, 0, rowOf(-128, 33, 20));
    due("skipped in bytes", x.judge(0, 5, 2), -4);
    x.put(2, 2, -127);
    due("that isn't, in bytes", x.judge(0, 5, 2), 2);
    fill(x, 3, 2, rowOf(LOW, 33, LOW, 14));
    due("skipped in ints", x.judge(0, 5, 3), -4);
    x.put(3, 2, -32768);
    due("not the least of ints", x.judge(0, 5, 3), 2);
    due("a byte keeps no more", bytesOf(x), 0);
    due("no elements", x.row(5, 2, 0) + x.judge(0, 5, 5), -4);
    due("no PIECE", x.judge(1, 5, 1) + x.judge(-1, 5, 1), -2);
    due("STRONG", x.judge(0, 0, 1) + x.judge(0, 100, 1), -2);
    due("no SHELF", x.judge(0, 5, 8) + x.judge(0, 5, -1), -2);
    due("nothing", x.judge(0, 5, 7), -11);
    due("no PIECE ahead of nothing", x.judge(1, 5, 7), -1);
    x.keep(7, 1, 0);
    due("a THING", x.judge(0, 5, 7), -12);
    fill(x, 6, 2, new int[100]);
    for (int i = 0; i < 100; i++) x.put(6, i, i == 0 ? 1980 : 9900 / (5 + 10 * i));
    due("a hundred, up to 1000", x.judge(0, 99, 6), -4);
  }

  private static int bytesOf(FiddleBuzz x) {
    fill(x, 4, 0, rowOf(200));
    return x.judge(0, 10, 4);
  }

  private static void p34Image() {
    FiddleBuzz x = with("p100 5 40;t00 50 0 5;");
    due("no ASKS", x.image(), 0);
    x.ask(100, 5, true);
    x.ask(100, 5, true);
    due("two ASKS", x.image(), 2);
    x.forget();
    due("the later one", x.restore(), 2);
  }

  private static void p35Restore() {
    FiddleBuzz x = with("p100 5 40;t00 50 0 5;t10 50 9 5;");
    due("none", x.restore(), -3);
    x.wax(0, 4);
    x.hand(0);
    x.set(0, 2);
    x.set(1, 1);
    x.set(2, 3);
    x.set(3, -4);
    x.ask(100, 9, false);
    x.image();
    x.forget();
    x.wax(0, 5);
    x.hand(-1);
    x.set(0, 3);
    x.set(1, 0);
    x.set(2, 1);
    x.set(3, 4);
    due("more comes", read(x, "p200 6 6j0 6;t71 7 7 7;"), 2);
    x.keep(2, 1, 2);
    x.wax(1, 9);
    x.ask(200, 99, true);
    x.ask(200, 99, true);
    due("as many ASKS as then", x.restore(), 1);
    due("PIECES", x.count(0), 1);
    due("THINGS", x.count(1), 2);
    due("ASKS heard", x.count(4), 0);
    due("WAX", x.count(3), 4);
    due("which ASK it was", x.fits(), 0);
    due("DRY", x.set(0, 0), 2);
    due("PLAYER", x.set(1, 0), 1);
    due("ROOM", x.set(2, 0), 3);
    due("POST", x.set(3, 0), -4);
    due("HAND", x.hand(-1), 0);
    due("SHELVES stay", x.price(2), 1);
    due("a THING on a SHELF stays what it was", x.toss(2), 201);
    due("the ROW stays", x.element(0, 0), 'p');
    due("once more", x.restore(), 1);
    due("as it was, again", x.set(3, 0), -4);
    x.forget();
    due("another PIECE", read(x, "p300 6 6;t31 7 7 7;"), 2);
    due("without WAX", x.piece(1, 5), 0);
    due("not what was there", x.thing(2, 0), 3);
    due("but on the SHELF", x.toss(2), 201);
  }

  private static void p36Count() {
    FiddleBuzz x = with("p100 5 40;p100 5 40;p100 5 40;t00 50 0 5;t10 50 9 99;");
    x.wax(0, 20);
    x.wax(2, 7);
    x.ask(100, 5, true);
    x.ask(100, 5, false);
    x.ask(100, 5, true);
    int[] all = {3, 2, 3, 27, 2, 104};
    for (int i = 0; i < 6; i++) due("count(" + i + ")", x.count(i), all[i]);
    due("others", x.count(-1) + x.count(6) + x.count(LOW) + x.count(HIGH), -4);
  }

  private static void p37Keep() {
    FiddleBuzz x = with("p100 5 40;t00 50 1 5;t20 50 1 5;");
    due("a THING", x.keep(0, 1, 1), 0);
    due("it is there", x.price(0), 15);
    due("no THING 2", x.keep(0, 1, 2), -1);
    due("no THING -1", x.keep(0, 1, -1), -1);
    due("refused changes nothing", x.price(0), 15);
    due("nothing, the others do not matter", x.keep(0, 0, 77), 0);
    due("nothing is there", x.price(0), -11);
    due("what", x.keep(0, 2, 0) + x.keep(0, -1, 0), -2);
    due("no SHELF", x.keep(8, 1, 0) + x.keep(-1, 1, 0) + x.keep(8, 0, 0), -3);
    x.row(7, 0, 3);
    due("in place of a ROW", x.keep(7, 1, 0), 0);
    due("the ROW is gone", x.put(7, 0, 0), -12);
    x.row(7, 0, 3);
    due("a ROW taken away", x.keep(7, 0, 0), 0);
    due("it is gone", x.put(7, 0, 0), -11);
  }

  private static void p38Row() {
    FiddleBuzz x = with("p100 5 40;t00 50 1 5;");
    due("a ROW", x.row(7, 2, 100), 0);
    due("0 at first", x.element(7, 99), 0);
    due("no place more", x.put(7, 100, 1), -13);
    due("above 100", x.row(7, 2, 101), -1);
    due("below 0", x.row(7, 2, -1), -14);
    due("far below", x.row(7, 2, LOW), -14);
    due("SORT ahead of it", x.row(7, 3, -1) + x.row(7, -1, -1), -2);
    due("SHELF ahead of it", x.row(8, 0, -1) + x.row(-1, 0, -1), -2);
    due("refused changes nothing", x.put(7, 99, 1), 0);
    due("a new one", x.row(7, 2, 100), 0);
    due("is 0 again", x.element(7, 99), 0);
    due("none at all", x.row(7, 0, 0), 0);
    due("no place there", x.put(7, 0, 1), -13);
    x.keep(3, 1, 0);
    x.row(3, 1, 1);
    due("in place of a THING", x.price(3), -12);
  }

  private static void p39Put() {
    FiddleBuzz x = with("p100 5 40;t00 50 1 5;");
    int[] put = {127, 128, 255, 256, -129, 32767, 32768, 65535, 65536, -32769, HIGH, LOW};
    int[] bytes = {127, -128, -1, 0, 127, -1, 0, -1, 0, -1, -1, 0};
    int[] shorts = {127, 128, 255, 256, -129, 32767, -32768, -1, 0, 32767, -1, 0};
    for (int sort = 0; sort < 3; sort++) {
      x.row(sort, sort, 2);
      for (int i = 0; i < put.length; i++) {
        due("put", x.put(sort, 1, put[i]), 0);
        due("put " + put[i] + " of SORT " + sort, x.element(sort, 1), sort == 0 ? bytes[i] : sort == 1 ? shorts[i] : put[i]);
      }
      due("the other stays", x.element(sort, 0), 0);
    }
    due("no SHELF", x.put(8, 0, 0) + x.put(-1, 0, 0), -2);
    due("nothing", x.put(7, 0, 0), -11);
    x.keep(7, 1, 0);
    due("a THING", x.put(7, 0, 0), -12);
    due("no place", x.put(0, 2, 0), -13);
    due("no place below", x.put(0, -1, 0), -13);
  }

  private static void p40Element() {
    FiddleBuzz x = with("p100 5 40;t00 50 1 5;");
    x.row(2, 2, 1);
    x.put(2, 0, LOW);
    due("element", x.element(2, 0), LOW);
    due("throws nothing", thrown(x, 2, 0), 0);
    due("no SHELF 8", thrown(x, 8, 0), 1);
    due("no SHELF -1", thrown(x, -1, -1), 1);
    due("nothing", thrown(x, 3, 0), 2);
    x.keep(3, 1, 0);
    due("a THING", thrown(x, 3, 0), 2);
    due("no place", thrown(x, 2, 1), 2);
    due("no place below", thrown(x, 2, -1), 2);
  }

  private static void p41Copy() {
    FiddleBuzz x = with("p100 5 40;t00 50 1 5;");
    fill(x, 1, 1, rowOf(1, 2, 3, 4, 5));
    x.row(2, 1, 3);
    due("copy", x.copy(1, 2, 2, 1, 2), 2);
    due("copied", x.element(2, 0) * 100 + x.element(2, 1) * 10 + x.element(2, 2), 34);
    due("what is copied stays", x.element(1, 2), 3);
    due("onto itself, on", x.copy(1, 0, 1, 1, 4), 4);
    due("as it was before", x.element(1, 1) * 1000 + x.element(1, 2) * 100 + x.element(1, 3) * 10 + x.element(1, 4), 1234);
    due("onto itself, back", x.copy(1, 1, 1, 0, 4), 4);
    due("as it was before, back", x.element(1, 0) * 1000 + x.element(1, 1) * 100 + x.element(1, 2) * 10 + x.element(1, 3), 1234);
    due("none at the end", x.copy(1, 5, 2, 3, 0), 0);
    due("beyond the end", x.copy(1, 6, 2, 0, 0), -13);
    due("beyond the other's end", x.copy(1, 0, 2, 4, 0), -13);
    due("too many", x.copy(1, 4, 2, 0, 2), -13);
    due("too many there", x.copy(1, 0, 2, 2, 2), -13);
    due("below", x.copy(1, -1, 2, 0, 1) + x.copy(1, 0, 2, -1, 1) + x.copy(1, 0, 2, 0, -1), -39);
    due("far", x.copy(1, HIGH, 2, 0, 1) + x.copy(1, 1, 2, 0, HIGH) + x.copy(1, 0, 2, HIGH, HIGH) + x.copy(1, 0, 2, 0, LOW), -52);
    x.row(3, 2, 5);
    due("of other SORTS", x.copy(1, 0, 3, 0, 1), -12);
    x.keep(4, 1, 0);
    due("a THING", x.copy(1, 0, 4, 0, 1), -12);
    due("a THING first", x.copy(4, 0, 1, 0, 1), -12);
    due("nothing", x.copy(5, 0, 1, 0, 1), -11);
    due("nothing there", x.copy(1, 0, 5, 0, 1), -11);
    due("nothing ahead of a THING", x.copy(4, 0, 5, 0, 1), -11);
    due("no SHELF", x.copy(8, 0, 1, 0, 1) + x.copy(1, 0, -1, 0, 1), -2);
    due("no SHELF ahead of nothing", x.copy(5, 0, 8, 0, 1), -1);
  }

  private static void p42Price() {
    FiddleBuzz x = ofEachKind();
    int[] prices = {5, 8, 15, 2, 48, 13, 0};
    for (int t = 0; t < 7; t++) {
      x.keep(t, 1, t);
      due("price of " + t, x.price(t), prices[t]);
    }
    due("nothing", x.price(7), -11);
    x.row(7, 0, 0);
    due("a ROW", x.price(7), -12);
    due("no SHELF", x.price(8) + x.price(-1), -2);
  }

  private static void p43Toss() {
    FiddleBuzz x = ofEachKind();
    int[] numbers = {0, 1, 2, -15, 104, 5, 6};
    for (int t = 0; t < 7; t++) {
      x.keep(t, 1, t);
      due("toss of " + t, x.toss(t), numbers[t]);
    }
    due("nothing", x.toss(7), -11);
    x.row(7, 0, 0);
    due("a ROW", x.toss(7), -12);
    due("no SHELF", x.toss(8) + x.toss(-1), -2);
    FiddleBuzz y = with("p100 5 40;t00 50 0 5;t40 50 0 5;t70 50 0 5;t70 50 1 5;t30 50 0 5;t60 50 0 5;");
    int[] without = {-15, -15, -15, 201, -15, -15};
    for (int t = 0; t < 6; t++) {
      y.keep(t, 1, t);
      due("toss, FIGURE 0, of " + t, y.toss(t), without[t]);
    }
  }

  public static void main(String[] args) {
    p1NewObject();
    p2Instrument();
    p2FaultsOfKind1();
    p2FaultsOfKind2();
    p3Piece();
    p4Thing();
    p5Wax();
    p6Hand();
    p7Set();
    p8Swing();
    p9Buzzes();
    p9RoomAndWithin();
    p10Heard();
    p11Bands();
    p12Loudest();
    p13Softest();
    p14Ask();
    p14AsThingsWere();
    p15Forget();
    p16Fits();
    p17Both();
    p18Odds();
    p19Which();
    p20Next();
    p21Fewest();
    p22Shift();
    p23Lives();
    p24SeamOrCrack();
    p25Length();
    p26Friday();
    p27Wolf();
    p28Beats();
    p29Ends();
    p30Rattles();
    p31Harm();
    p32Hair();
    p33Judge();
    p34Image();
    p35Restore();
    p36Count();
    p37Keep();
    p38Row();
    p39Put();
    p40Element();
    p41Copy();
    p42Price();
    p43Toss();
    System.out.println(right + " answers as due, " + wrong + " not");
    if (wrong != 0) System.exit(1);
  }
}
