/** The sentences of "Terms", 2: an INSTRUMENT is read from bytes; FAULTS of both kinds and where they are. */
public final class TextTest {
  /** Each STATEMENT in each form, numbers of 1, 2, 3 digits. */
  private static final String ALL = "p100 5 40;p9 99 999j0 50;p10 1 1j9 0;t00 999 9 99;t79 1 0 1;d0;d20;d999;w1;r3;";

  private static void sentence(String words) { Bench.sentence(words); }
  private static void due(String call, long got, long want) { Bench.due(call, got, want); }

  private static void reads(String text, int want) { due("\"" + text + "\"", Bench.reading(text), want); }

  private static String times(String s, int n) { return s.repeat(n); }

  private static void forms() {
    sentence("p, TONE, a blank, LOSS, a blank, WEIGHT, then perhaps j, a PIECE (a digit), a blank, PASS: a PIECE more");
    FiddleBuzz x = new FiddleBuzz();
    due("both forms", Bench.read(x, "p101 2 3;p104 5 6j0 7;"), 2);
    int[] first = {101, 2, 3, -4, 0};
    int[] second = {104, 5, 6, 0, 7};
    for (int i = 0; i < 5; i++) due("first, " + i, x.piece(0, i), first[i]);
    for (int i = 0; i < 5; i++) due("second, " + i, x.piece(1, i), second[i]);
    reads("p 10 1 1;", -1001);
    reads("p10  1 1;", -1004);
    reads("p10 1  1;", -1006);
    reads("p10\t1 1;", -1003);
    reads("p10 1;", -1005);
    reads("p10;", -1003);
    reads("p10 1 1 ;", -1007);
    reads("p10 1 1 1;", -1007);
    reads("p10 1 1j;", -1008);
    reads("p10 1 1j 0 5;", -1008);
    reads("p10 1 1j0;", -1009);
    reads("p10 1 1j0  5;", -1010);
    reads("p10 1 1j00 5;", -1009);
    reads("p10 1 1j0 5j0 5;", -1011);
    reads("p10 1j0 5;", -1005);
    reads("pj0 5;", -1001);
    reads("p10 1 1J0 5;", -1007);
    sentence("t, KIND (a digit), PIECE (a digit), a blank, GAP, a blank, FIGURE (a digit), a blank, CHANCE: a THING more");
    due("a THING", Bench.read(x, "t41 234 5 67;"), 1);
    int[] thing = {4, 1, 234, 5, 67};
    for (int i = 0; i < 5; i++) due("THING, " + i, x.thing(0, i), thing[i]);
    reads("t 00 1 0 1;", -1001);
    reads("t0 0 1 0 1;", -1002);
    reads("t0 1 0 1;", -1002);
    reads("t000 1 0 1;", -1003);
    reads("t001 0 1;", -1003);
    reads("t00  1 0 1;", -1004);
    reads("t00 1 00 1;", -1007);
    reads("t00 1 10 1;", -1007);
    reads("t00 1  0 1;", -1006);
    reads("t00 1 0  1;", -1008);
    reads("t00 1 0;", -1007);
    reads("t00 1 0 1 ;", -1009);
    sentence("d, DRY; w, PLAYER (a digit); r, ROOM (a digit).");
    due("d, w, r", Bench.read(x, "d12;w1;r2;"), 3);
    due("DRY", x.set(0, 0), 12);
    due("PLAYER", x.set(1, 0), 1);
    due("ROOM", x.set(2, 0), 2);
    due("the later one stays", Bench.read(x, "d1;d2;d3;"), 3);
    due("DRY 3", x.set(0, 0), 3);
    reads("d 1;", -1001);
    reads("w;", -1001);
    reads("w 1;", -1001);
    reads("w10;", -1002);
    reads("w00;", -1002);
    reads("r;", -1001);
    reads("r10;", -1002);
    reads("r1 ;", -1002);
    sentence("STATEMENTS, each with ; behind");
    reads("d1", -1002);
    reads("d1d1;", -1002);
    reads("d1,d1;", -1002);
    reads("d1;;", -1003);
    reads(";d1;", -1000);
    reads("d1; d1;", -1003);
    reads("d1;d1;", 2);
    reads("x1;", -1000);
    reads("D1;", -1000);
    reads("j0 5;", -1000);
  }

  private static void numbers() {
    sentence("NUMBERS have 1 to 3 digits, no 0 ahead of another.");
    String[] before = {"p", "p10 ", "p10 1 ", "p10 1 1;p10 1 1j0 ", "p10 1 1;t00 ", "p10 1 1;t00 1 0 ", "d"};
    String[] behind = {" 1 1;", " 1;", ";", ";", " 0 1;", ";", ";"};
    boolean[] isRange99 = {false, true, true, true, false, true, false};
    for (int i = 0; i < before.length; i++) {
      int at = before[i].length();
      int letter = before[i].lastIndexOf(';') + 1;
      int statements = letter == 0 ? 1 : 2;
      reads(before[i] + behind[i], -1000 - at);
      reads(before[i] + "00" + behind[i], -1000 - (at + 1));
      reads(before[i] + "01" + behind[i], -1000 - (at + 1));
      reads(before[i] + "012" + behind[i], -1000 - (at + 1));
      reads(before[i] + "000" + behind[i], -1000 - (at + 1));
      reads(before[i] + "1000" + behind[i], -1000 - (at + 3));
      reads(before[i] + "9999" + behind[i], -1000 - (at + 3));
      reads(before[i] + "-1" + behind[i], -1000 - at);
      reads(before[i] + "+1" + behind[i], -1000 - at);
      reads(before[i] + "1x" + behind[i], -1000 - (at + 1));
      reads(before[i] + "100" + behind[i], isRange99[i] || before[i].equals("d") ? -2000 - letter : statements);
      reads(before[i] + "10" + behind[i], statements);
      reads(before[i] + "0" + behind[i], before[i].equals("d") || before[i].endsWith("j0 ") ? statements : -2000 - letter);
    }
    due("the byte ahead of 0", Bench.reading("d/;"), -1001);
    due("the byte behind 9", Bench.reading("d:;"), -1001);
    due("the byte ahead of 0, for a digit", Bench.reading("w/;"), -1001);
    due("the byte behind 9, for a digit", Bench.reading("w:;"), -1001);
    due("a NUMBER of three digits", with("d20;p123 99 98;").piece(0, 0), 123);
  }

  private static FiddleBuzz with(String text) { return Bench.with(text); }

  private static void atLeastOne() {
    sentence("At least one STATEMENT.");
    reads("", -1000);
    FiddleBuzz x = new FiddleBuzz();
    x.row(7, 0, 0);
    due("a ROW of no bytes", x.instrument(7), -1000);
    reads("d0;", 1);
    due("more of an INSTRUMENT that is there: none", Bench.read(with("p10 1 1;"), ""), -1000);
  }

  private static void firstByte() {
    sentence("kind 1 the place of the first byte with which no INSTRUMENT can go on");
    // Neither x nor the bytes 0, -128, -1 can stand anywhere; each place of the text is tried.
    int[] never = {'x', 0, 128, 255, ' ' + 128, 'P'};
    for (int i = 0; i < ALL.length(); i++) {
      int bad = never[i % never.length];
      String text = ALL.substring(0, i) + (char) bad + ALL.substring(i + 1);
      due("byte " + bad + " at place " + i, Bench.reading(text), -1000 - i);
    }
    reads("x", -1000);
    reads("d1;x", -1003);
    due("at the last of 100 places", Bench.reading(times("d0;", 33) + "x"), -1099);
    due("what comes behind it doesn't matter", Bench.reading("d1;wxxxx"), -1004);
    FiddleBuzz zeros = new FiddleBuzz();
    zeros.row(0, 0, 100);
    due("100 bytes 0", zeros.instrument(0), -1000);
    sentence("(the size, if it ends too early)");
    // A text can end behind a ; alone, wherever else it ends too early.
    for (int size = 0; size < ALL.length(); size++) {
      if (size == 0 || ALL.charAt(size - 1) != ';') due("the first " + size + " bytes", Bench.reading(ALL.substring(0, size)), -1000 - size);
    }
    due("100 bytes that end too early", Bench.reading(times("d0;", 33) + "d"), -1100);
    due("99 bytes that end too early", Bench.reading(times("d0;", 32) + "d10"), -1099);
    due("100 bytes, all told", Bench.reading(times("d0;", 32) + "d20;"), 33);
  }

  private static void firstStatement() {
    sentence("else kind 2 the place of the letter of the first STATEMENT that isn't as told");
    reads("d21;", -2000);
    reads("d20;d21;", -2004);
    reads("d20;w2;r4;d99;", -2004);
    reads("d20;w1;r4;d99;", -2007);
    due("at place 96 of 100", Bench.reading(times("d0;", 32) + "d21;"), -2096);
    due("at place 97 of 100", Bench.reading(times("d0;", 31) + "d20;w9;"), -2097);
    sentence("-1000 times the kind less the place");
    due("kind 1, place 0", Bench.reading("x"), -1000);
    due("kind 1, place 1", Bench.reading("d"), -1001);
    due("kind 2, place 0", Bench.reading("w2;"), -2000);
    due("kind 2, place 3", Bench.reading("w1;w2;"), -2003);
    sentence("kind 1 (of any place) goes ahead of kind 2");
    reads("d21;x", -1004);
    reads("d21;d", -1005);
    reads("w2;r4;d21;p9 1 1;t99 0 0 0", -1026);
    reads("p9 1 1;p01 1 1;", -1009);
    reads("x;d21;", -1000);
    sentence("STATEMENTS are tried one behind the other, each on what those ahead of it made, and the first that can't be done so is told");
    reads("t00 1 0 1;p10 1 1;", -2000);
    reads("p10 1 1;t00 1 0 1;", 2);
    reads("p10 1 1j0 1;p10 1 1;", -2000);
    reads("p10 1 1;p10 1 1j0 1;p10 1 1j1 1;", 3);
    reads("p10 1 1;t01 1 0 1;p10 1 1;", -2008);
    reads("p10 1 1;p10 1 1;t01 1 0 1;t02 1 0 1;", -2026);
    reads("p10 1 1;d21;w2;", -2008);
  }

  private static void notAsTold() {
    sentence("(a number out of range, no room, a PIECE that isn't there by then; p, t: an ASK is kept)");
    reads("p9 1 1;", -2000);
    reads("p10 0 1;", -2000);
    reads("p10 1 0;", -2000);
    reads("p10 1 1;p10 1 1j0 100;", -2008);
    reads("p10 1 1;t80 1 0 1;", -2008);
    reads("p10 1 1;t00 0 0 1;", -2008);
    reads("p10 1 1;t00 1 0 0;", -2008);
    reads("r4;", -2000);
    FiddleBuzz full = Bench.with(times("p10 1 1;", 9), times("t00 1 0 1;", 6));
    due("no room for the eleventh PIECE", Bench.read(full, "p10 1 1;p10 1 1;"), -2008);
    due("no room for the eighth THING", Bench.read(full, "t00 1 0 1;t00 1 0 1;"), -2010);
    due("room for one of each", Bench.read(full, "p10 1 1;t09 1 0 1;"), 2);
    due("for no more PIECES", Bench.read(full, "p10 1 1;"), -2000);
    due("for no more THINGS", Bench.read(full, "t00 1 0 1;"), -2000);
    due("but DRY, PLAYER, ROOM need none", Bench.read(full, "d1;w1;r1;"), 3);
    reads("p10 1 1j0 0;", -2000);
    reads("p10 1 1;p10 1 1j1 0;", -2008);
    reads("p10 1 1;p10 1 1j9 0;", -2008);
    reads("p10 1 1;t09 1 0 1;", -2008);
    FiddleBuzz x = Bench.with("p10 1 1;t00 1 0 1;");
    x.image();
    x.ask(10, 1, true);
    due("p while an ASK is kept", Bench.read(x, "p10 1 1;"), -2000);
    due("t while an ASK is kept", Bench.read(x, "t00 1 0 1;"), -2000);
    due("p behind others", Bench.read(x, "d1;w1;p10 1 1;"), -2006);
    due("d, w, r while an ASK is kept", Bench.read(x, "d2;w1;r3;"), 3);
    due("a FAULT of kind 1 ahead of it", Bench.read(x, "p10 1 1"), -1007);
    x.restore();
    due("when there is none, by the IMAGE", Bench.read(x, "p10 1 1;t01 1 0 1;"), 2);
    x.ask(10, 1, true);
    x.forget();
    due("when they are forgotten", Bench.read(x, "p10 1 1;t02 1 0 1;"), 2);
  }

  private static String told(FiddleBuzz x) {
    StringBuilder b = new StringBuilder();
    for (int i = 0; i < 6; i++) b.append(x.count(i)).append(' ');
    for (int i = 0; i < 3; i++) {
      int was = x.set(i, 0);
      x.set(i, was);
      b.append(was).append(' ');
    }
    return b.toString();
  }

  private static void allOrNothing() {
    sentence("Without FAULT all of it comes; with one nothing.");
    FiddleBuzz x = Bench.with("p10 1 1;d3;");
    due("all of it", Bench.read(x, "p20 1 1j0 1;t01 1 0 7;d4;w1;r2;"), 5);
    Bench.due("what is there", told(x), "2 1 0 0 0 7 4 1 2 ");
    due("kind 2 at the end", Bench.read(x, "p30 1 1;t02 1 0 7;d5;w0;r3;r4;"), -2027);
    Bench.due("still", told(x), "2 1 0 0 0 7 4 1 2 ");
    due("kind 1 at the end", Bench.read(x, "p30 1 1;t02 1 0 7;d5;w0;r3;r3"), -1029);
    Bench.due("still", told(x), "2 1 0 0 0 7 4 1 2 ");
    due("PIECE 2 is not there for the next text", Bench.read(x, "t02 1 0 7;"), -2000);
    due("the next PIECE is the third", Bench.read(x, "p40 1 1;") * 100 + x.piece(2, 0), 140);
    sentence("The ROW that is read, and what is taken from a SHELF, stay there");
    FiddleBuzz y = new FiddleBuzz();
    String[] texts = {"d1;", "d21;", "dx;"};
    for (String text : texts) {
      Bench.read(y, text);
      for (int i = 0; i < text.length(); i++) due("byte " + i + " of " + text, y.element(0, i), text.charAt(i));
      due("no more bytes", Bench.thrown(y, 0, text.length()), 2);
    }
    Bench.fill(y, 1, "w1;");
    due("read", y.instrument(1), 1);
    due("read once more", y.instrument(1), 1);
    FiddleBuzz z = Bench.with("p10 1 1;t10 1 4 1;");
    z.keep(3, 1, 0);
    for (int i = 0; i < 2; i++) {
      due("price, time and again", z.price(3), 9);
      due("toss, time and again", z.toss(3), 0);
    }
  }

  private static void promise2() {
    sentence("The text in SHELF d: how many STATEMENTS; the FAULT. -1, -11, -12 (no ROW of bytes).");
    FiddleBuzz x = with("p10 1 1;t00 1 0 1;");
    due("SHELF -1", x.instrument(-1), -1);
    due("SHELF 8", x.instrument(8), -1);
    due("nothing", x.instrument(7), -11);
    x.keep(7, 1, 0);
    due("a THING", x.instrument(7), -12);
    Bench.fill(x, 7, 1, 'd', '1', ';');
    due("shorts", x.instrument(7), -12);
    Bench.fill(x, 7, 2, 'd', '1', ';');
    due("ints", x.instrument(7), -12);
    x.row(7, 1, 0);
    due("no shorts", x.instrument(7), -12);
    Bench.fill(x, 7, 0, 'd' + 256, '1' - 256, ';' + 512);
    due("bytes, of their lowest bits", x.instrument(7), 1);
    due("one STATEMENT", Bench.reading("d1;"), 1);
    due("33", Bench.reading(times("w0;", 33)), 33);
  }

  public static void main(String[] args) throws Exception {
    forms();
    numbers();
    atLeastOne();
    firstByte();
    firstStatement();
    notAsTold();
    allOrNothing();
    promise2();
    Bench.end();
  }
}
