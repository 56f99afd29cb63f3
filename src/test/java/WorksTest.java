/** The last sentences of "Terms", 3: works, wolves, rattles, harm, hair, judged swings, THE IMAGE; what is said once more. */
public final class WorksTest {
  private static final int FAR = Bench.FAR;
  private static final int LOW = Bench.LOW;
  private static final int HIGH = Bench.HIGH;

  private static void sentence(String words) { Bench.sentence(words); }
  private static void due(String call, long got, long want) { Bench.due(call, got, want); }
  private static FiddleBuzz with(String... texts) { return Bench.with(texts); }

  private static void friday(FiddleBuzz x, String what, int strong, int price, int set) {
    due(what + ": price", x.friday(7, strong, 0), price);
    due(what + ": set", x.friday(7, strong, 1), set);
  }

  private static void fridays() {
    sentence("FRIDAY: of all sets of THINGS to mend those by which nobody BUZZES at any tone of a ROW at STRONG (as it is now): the cheapest (by PRICES), of several the least as bits: its price, the set.");
    FiddleBuzz x = with("p100 1 1;p300 1 1;t00 50 0 1;t20 50 0 1;t60 48 0 1;t01 50 0 1;t31 50 5 1;t41 50 9 1;");
    Bench.fill(x, 7, 1);
    friday(x, "no tones", 1, 0, 0);
    Bench.fill(x, 7, 1, 200);
    friday(x, "nobody BUZZES", 1, 0, 0);
    Bench.fill(x, 7, 1, 100);
    friday(x, "at 100", 1, 20, 3);
    Bench.fill(x, 7, 1, 100, 50, 100, 300);
    friday(x, "at 100, 50 and 300", 1, 5 + 15 + 5 + 54, 1 + 2 + 8 + 32);
    x.set(1, 1);
    Bench.fill(x, 7, 1, 100);
    friday(x, "WORN BUZZES and costs nothing", 1, 20, 7);
    Bench.fill(x, 7, 1, 300);
    friday(x, "WORN that doesn't BUZZ isn't in it", 1, 59, 40);
    FiddleBuzz worn = with("p100 1 1;t60 48 0 1;");
    worn.set(1, 1);
    Bench.fill(worn, 7, 1, 100);
    friday(worn, "WORN alone: for nothing, but mended", 1, 0, 1);
    FiddleBuzz all = with("p100 1 1;t00 50 0 1;t00 50 0 1;t00 50 0 1;t00 50 0 1;t00 50 0 1;t00 50 0 1;t00 50 0 1;");
    Bench.fill(all, 7, 1, 100);
    friday(all, "all seven", 1, 35, 127);
    int[] tones = new int[100];
    for (int i = 0; i < 100; i++) tones[i] = i == 99 ? 100 : 1101 + i;
    Bench.fill(all, 7, 2, tones);
    friday(all, "the last of 100", 1, 35, 127);
    Bench.fill(all, 7, 1, 1, 1200);
    friday(all, "1 and 1200 are tones", 1, 0, 0);
    friday(new0(), "no THINGS", 99, 0, 0);
    FiddleBuzz low = with("p10 1 1;t00 5 0 1;");
    Bench.fill(low, 7, 1);
    friday(low, "no tone 0 where none is told", 50, 0, 0);
    Bench.fill(low, 7, 1, 1200);
    friday(low, "nor beside one", 50, 0, 0);
    sentence("FRIDAY by the ROW in SHELF d at STRONG: the price (what 0), the set (1). -1, -11, -12 (no ROW), -13 (no tone 1 .. 1200).");
    Bench.fill(all, 7, 1, 100, 0);
    due("0 is none", all.friday(7, 1, 0), -13);
    Bench.fill(all, 7, 1, 1201, 100);
    due("1201 is none", all.friday(7, 1, 1), -13);
    Bench.fill(all, 7, 0, 200);
    due("a byte 200 is none", all.friday(7, 1, 1), -13);
    all.row(7, 1, 100);
    due("100 that are none", all.friday(7, 1, 1), -13);
    due("what 2", all.friday(7, 1, 2), -1);
    due("what -1", all.friday(7, 1, -1), -1);
    due("STRONG 0", all.friday(7, 0, 0), -1);
    due("STRONG 100", all.friday(7, 100, 0), -1);
    due("SHELF 8", all.friday(8, 1, 0), -1);
    due("SHELF -1", all.friday(-1, 1, 0), -1);
    due("nothing", all.friday(6, 1, 0), -11);
    all.keep(6, 1, 0);
    due("a THING", all.friday(6, 1, 0), -12);
  }

  private static FiddleBuzz new0() {
    FiddleBuzz x = with("p100 1 1;");
    Bench.fill(x, 7, 1, 100);
    return x;
  }

  private static void wolves() {
    sentence("WOLF: pairs of PIECES a, b of which b is joined to a and whose TONES NOW are less than 6 apart: how many; the i-th (by a, then b), as 10 a and b.");
    due("no PIECES", new FiddleBuzz().wolf(-1), 0);
    due("no first", new FiddleBuzz().wolf(0), -4);
    due("5 above", with("p100 1 1;p105 1 1j0 0;").wolf(-1), 1);
    due("6 above", with("p100 1 1;p106 1 1j0 0;").wolf(-1), 0);
    due("5 below", with("p105 1 1;p100 1 1j0 0;").wolf(-1), 1);
    due("6 below", with("p106 1 1;p100 1 1j0 0;").wolf(-1), 0);
    due("none apart", with("p100 1 1;p100 1 1j0 0;").wolf(0), 1);
    due("not joined", with("p100 1 1;p100 1 1;").wolf(-1), 0);
    due("both joined to another", with("p300 1 1;p100 1 1j0 9;p100 1 1j0 9;").wolf(-1), 0);
    FiddleBuzz lowest = with("p10 1 1;p300 1 1;");
    lowest.wax(0, 20);
    due("TONE NOW 1, joined to none", lowest.wolf(-1), 0);
    due("so there is no first", lowest.wolf(0), -4);
    due("nor BEATS", lowest.beats(0), -4);
    FiddleBuzz x = with("p100 1 1;p100 1 1;p100 1 1j1 9;p100 1 1j0 9;p100 1 1j1 9;p100 1 1j0 9;p100 1 1j3 9;");
    int[] pairs = {3, 5, 12, 14, 36};
    due("five", x.wolf(-1), 5);
    for (int i = 0; i < 5; i++) due("WOLF " + i, x.wolf(i), pairs[i]);
    due("no sixth", x.wolf(5), -4);
    due("far", x.wolf(HIGH), -4);
    due("i -2", x.wolf(-2), -1);
    due("i far below", x.wolf(LOW), -1);
    x.wax(3, 1);
    due("TONES NOW", x.wolf(-1), 3);
    due("the first then", x.wolf(0), 5);
    FiddleBuzz y = with("p10 1 1;p10 1 1j0 0;p10 1 1j1 0;p10 1 1j2 0;p10 1 1j3 0;p10 1 1j4 0;p10 1 1j5 0;", "p10 1 1j6 0;p10 1 1j7 0;p10 1 1j8 0;");
    due("nine, by ten PIECES", y.wolf(-1), 9);
    due("the last", y.wolf(8), 89);
    due("no tenth", y.wolf(9), -4);
    sentence("BEATS of such a pair: 600 by how far these are apart (0: 600).");
    FiddleBuzz z = with("p100 1 1;p100 1 1j0 0;p101 1 1j0 0;p98 1 1j0 0;p103 1 1j0 0;p96 1 1j0 0;p105 1 1j0 0;p106 1 1j0 0;");
    int[] beats = {600, 600, 300, 200, 150, 120};
    for (int i = 0; i < 6; i++) due(i + " apart", z.beats(i), beats[i]);
    due("6 apart is none", z.beats(6), -4);
    due("the last of nine", y.beats(8), 600);
    FiddleBuzz far = with("p10 1 1;p20 1 1;p30 1 1;p40 1 1;p50 1 1;p60 1 1;p70 1 1;p80 1 1;p90 1 1;p93 1 1j8 0;");
    due("of 8 and 9", far.beats(0), 200);
    FiddleBuzz wide = with("p90 1 1;p20 1 1;p30 1 1;p40 1 1;p50 1 1;p60 1 1;p70 1 1;p80 1 1;p10 1 1;p86 1 1j0 0;");
    due("of 0 and 9", wide.beats(0), 150);
    FiddleBuzz mid = with("p10 1 1;p20 1 1;p30 1 1;p40 1 1;p50 1 1;p55 1 1j4 0;");
    due("of 4 and 5", mid.beats(0), 120);
    sentence("BEATS of the i-th WOLF; -4. -1.");
    due("no WOLF", new FiddleBuzz().beats(0), -4);
    due("far", z.beats(HIGH), -4);
    due("i -1", z.beats(-1), -1);
    due("i far below", z.beats(LOW), -1);
    z.wax(0, 1);
    due("TONES NOW: 67, far from all", z.beats(0), -4);
  }

  private static void ends(FiddleBuzz x, String what, int n, int piece) {
    due(what + ": n", x.ends(0), n);
    due(what + ": PIECE", x.ends(1), piece);
  }

  private static void endsOf() {
    sentence("ENDS: the least n (0 .. 20) and PIECE (of several the least PIECE) so that with WAX n there in place of what is on it no WOLF is left (the least n first): n, the PIECE; -4.");
    ends(with("p100 1 10;"), "no WOLF", 0, 0);
    ends(with("p100 1 10;p100 1 10j0 0;"), "4 off with 1, 9 with 2, on either", 2, 0);
    ends(with("p100 1 99;p100 1 1j0 0;"), "less on the second", 1, 1);
    // 1100 by 209 is 5, 1200 by 210 too, 1300 by 211 is 6.
    ends(with("p100 1 99;p100 1 99j0 0;"), "13 on either", 13, 0);
    ends(with("p55 1 99;p56 1 99j0 0;"), "20 on the first alone: 55 to 50", 20, 0);
    ends(with("p56 1 99;p55 1 99j0 0;"), "20 on the second alone", 20, 1);
    ends(with("p54 1 99;p55 1 99j0 0;"), "20 isn't enough: 54 to 50", -4, -4);
    ends(with("p100 1 10;p100 1 10j0 0;p300 1 10;p300 1 10j2 0;"), "two pairs, not by one", -4, -4);
    ends(with("p100 1 10;p100 1 10j0 0;p100 1 10j0 0;"), "two pairs, by the one in both", 2, 0);
    ends(with("p100 1 10;p100 1 10j0 0;p100 1 10j1 0;"), "two pairs, by the one between", 2, 1);
    FiddleBuzz x = with("p100 1 10;p100 1 10j0 0;");
    x.wax(0, 2);
    ends(x, "no WOLF, and none with 0 on the second", 0, 1);
    x.wax(1, 20);
    ends(x, "none with 0 on the first", 0, 0);
    x.wax(0, 0);
    x.wax(1, 1);
    ends(x, "in place of 1: 91 and 96 are a WOLF, 87 none", 2, 1);
    due("WAX stays", x.piece(0, 5) * 100 + x.piece(1, 5), 1);
    sentence("ENDS: n (what 0), the PIECE (1); -4. -1; -3: no PIECES.");
    due("no PIECES", new FiddleBuzz().ends(0), -3);
    due("no PIECES, what 1", new FiddleBuzz().ends(1), -3);
    due("no PIECES, what 2", new FiddleBuzz().ends(2), -1);
    due("what -1", x.ends(-1), -1);
    due("what 2", x.ends(2), -1);
  }

  private static void rattles(FiddleBuzz x, String what, int many, int bits, int... tones) {
    Bench.fill(x, 7, 1, tones);
    due(what + ": how many", x.rattles(7, 1, 0), many);
    due(what + ": which", x.rattles(7, 1, 1), bits);
  }

  private static void rattlesOf() {
    sentence("RATTLES: the fewest of told tones (a ROW; 10 at most) at STRONG at which (as it is now) each THING that BUZZES at any of them BUZZES at one at least: how many; as bits, of several the least.");
    FiddleBuzz x = with("p100 1 1;p300 1 1;t00 50 0 1;t01 50 0 1;t20 50 0 1;");
    rattles(x, "no tones", 0, 0);
    rattles(x, "nobody BUZZES", 0, 0, 200, 201);
    rattles(x, "one", 1, 1, 100);
    rattles(x, "of two alike the first", 1, 1, 100, 100);
    rattles(x, "the second finds more", 1, 2, 50, 100);
    rattles(x, "the first finds all", 1, 1, 100, 50);
    rattles(x, "two, of several the least", 2, 6, 50, 100, 300, 300, 100);
    rattles(x, "who BUZZES at none of them isn't looked for", 1, 1, 300, 301, 302);
    rattles(x, "three", 2, 3, 100, 300, 301);
    rattles(x, "then fewer: what was told before is forgotten", 1, 1, 100);
    rattles(x, "then none", 0, 0);
    rattles(x, "ten", 2, 768, 200, 201, 202, 203, 204, 205, 206, 207, 300, 100);
    rattles(x, "eleven", -13, -13, 200, 201, 202, 203, 204, 205, 206, 207, 300, 100, 200);
    rattles(x, "1 and 1200 are tones", 0, 0, 1, 1200);
    rattles(x, "0 is none", -13, -13, 100, 0);
    rattles(x, "1201 is none", -13, -13, 1201, 100);
    rattles(x, "-1 is none", -13, -13, -1);
    x.wax(0, 1);
    rattles(x, "as it is now: TONE NOW 67", 1, 2, 100, 67);
    // At 101 both SWING by 50.
    FiddleBuzz two = with("p100 1 1;p102 1 1;t00 45 0 1;t01 45 0 1;");
    rattles(two, "101 finds both", 1, 4, 100, 102, 101);
    rattles(two, "without it two are wanted", 2, 3, 100, 102);
    rattles(with("p10 1 1;t00 5 0 1;"), "no tone 0 beside one told", 0, 0, 1200);
    FiddleBuzz seven = with("p100 1 1;p200 1 1;p300 1 1;p400 1 1;p500 1 1;p600 1 1;p50 1 1;", "t00 50 0 1;t01 50 0 1;t02 50 0 1;t03 50 0 1;t04 50 0 1;t05 50 0 1;t06 50 0 1;");
    rattles(seven, "seven, one each", 7, 0b1110110101, 100, 110, 200, 120, 300, 400, 130, 500, 600, 50);
    sentence("RATTLES by the ROW in SHELF d at STRONG: how many (what 0), as bits (1). -1, -11, -12 (no ROW), -13 (more than 10, or no tone 1 .. 1200).");
    due("what -1", seven.rattles(7, 1, -1), -1);
    due("what 2", seven.rattles(7, 1, 2), -1);
    due("STRONG 0", seven.rattles(7, 0, 0), -1);
    due("STRONG 100", seven.rattles(7, 100, 0), -1);
    due("SHELF 8", seven.rattles(8, 1, 0), -1);
    due("SHELF -1", seven.rattles(-1, 1, 0), -1);
    due("nothing", seven.rattles(6, 1, 0), -11);
    seven.keep(6, 1, 0);
    due("a THING", seven.rattles(6, 1, 0), -12);
  }

  private static void harms() {
    sentence("HARM: by how much less SEAMED and CRACKED THINGS take to STRIKE together n weeks later (DRY 20 at most).");
    FiddleBuzz x = with("p100 1 1;t10 999 9 1;t40 999 9 1;");
    due("0 weeks", x.harm(0), 0);
    due("1: 9, and 499 less 495", x.harm(1), 9 + 4);
    due("20: 180, and 499 less 409", x.harm(20), 180 + 90);
    x.set(0, 19);
    due("1 from 19", x.harm(1), 9 + 5);
    due("2 from 19: DRY 20 at most", x.harm(2), 9 + 5);
    due("20 from 19", x.harm(20), 9 + 5);
    x.set(0, 20);
    due("20 from 20", x.harm(20), 0);
    due("DRY stays", x.set(0, 0), 20);
    FiddleBuzz low = with("p100 1 1;t10 20 9 1;t40 20 9 1;");
    due("held to 1", low.harm(20), 19 + 9);
    FiddleBuzz others = with("p100 1 1;t00 999 9 1;t20 999 9 1;t30 999 9 1;t50 999 9 1;t60 999 9 1;t70 999 9 1;");
    due("of others none", others.harm(20), 0);
    due("FIGURE 0", with("p100 1 1;t10 999 0 1;t40 999 0 1;").harm(20), 0);
    due("no THINGS", new FiddleBuzz().harm(20), 0);
    sentence("HARM n (0 .. 20) weeks later. -1.");
    due("-1", x.harm(-1), -1);
    due("21", x.harm(21), -1);
  }

  private static int hair(int post, int n) {
    FiddleBuzz x = with("p100 1 1;p600 99 1j0 50;");
    x.set(3, post);
    int answer = x.hair(1, 100, 1, n);
    due("POST stays", x.set(3, 0), post);
    return answer;
  }

  private static void hairs() {
    sentence("HAIR: what SWING a PIECE has at f, STRONG with POST n more (-9 .. 9 in all) less that as it is.");
    due("none more", hair(0, 0), 0);
    due("9 in all", hair(0, 9), 9);
    due("-9 in all", hair(0, -9), -9);
    due("10 in all", hair(0, 10), FAR - 3);
    due("-10 in all", hair(0, -10), FAR - 3);
    due("9 from 8", hair(8, 1), 1);
    due("10 from 8", hair(8, 2), FAR - 3);
    due("-9 from -8", hair(-8, -1), -1);
    due("-10 from -8", hair(-8, -2), FAR - 3);
    FiddleBuzz x = with("p100 1 1;p600 99 1j0 95;p600 99 1j0 5;");
    due("held to 99", x.hair(1, 100, 1, 9), 4);
    due("held to 0", x.hair(2, 100, 1, -9), -5);
    due("joined to none", x.hair(0, 100, 1, 9), 0);
    sentence("HAIR: POST n (-18 .. 18) more; -1000000001; -1000000003: beyond 9 either way.");
    due("18 from -9", hair(-9, 18), 18);
    due("-18 from 9", hair(9, -18), -18);
    due("18 from -8", hair(-8, 18), FAR - 3);
    due("-18 from 8", hair(8, -18), FAR - 3);
    due("19", hair(-9, 19), FAR - 1);
    due("-19", hair(9, -19), FAR - 1);
    due("as low as can be", hair(0, LOW), FAR - 1);
    due("as high as can be", hair(9, HIGH), FAR - 1);
    due("f 0", x.hair(1, 0, 1, 0), FAR - 1);
    due("f 1201", x.hair(1, 1201, 1, 0), FAR - 1);
    due("STRONG 0", x.hair(1, 100, 0, 0), FAR - 1);
    due("STRONG 100", x.hair(1, 100, 100, 0), FAR - 1);
    due("PIECE -1", x.hair(-1, 100, 1, 0), FAR - 1);
    due("PIECE 3 of 3", x.hair(3, 100, 1, 0), FAR - 1);
    due("no PIECE ahead of beyond", x.hair(3, 100, 1, 10), FAR - 1);
    due("f ahead of beyond", x.hair(1, 0, 1, 10), FAR - 1);
  }

  private static int judged(FiddleBuzz x, int sort, int... values) {
    Bench.fill(x, 7, sort, values);
    return x.judge(0, 1, 7);
  }

  private static void judgedOf() {
    sentence("JUDGED: a ROW of SWINGS of a PIECE at tones 10, 20, .. at STRONG: the place of the first that isn't so (the least number of the SORT is skipped); -4.");
    // At 10, 20, 30: 100, 100 by 11, 100 by 21.
    FiddleBuzz x = with("p10 1 1;");
    due("no SWINGS", judged(x, 1), -4);
    due("all so", judged(x, 0, 100, 9, 4), -4);
    due("the first isn't", judged(x, 0, 99, 9, 4), 0);
    due("the first of two that aren't", judged(x, 0, 100, 8, 3), 1);
    due("the last isn't", judged(x, 0, 100, 9, 5), 2);
    due("-128 of bytes", judged(x, 0, -128, 9, -128), -4);
    due("-127 of bytes", judged(x, 0, 100, -127, 4), 1);
    due("-128 of shorts", judged(x, 1, -128, 9, 4), 0);
    due("-32768 of shorts", judged(x, 1, -32768, -32768, 4), -4);
    due("-32767 of shorts", judged(x, 1, 100, 9, -32767), 2);
    due("-32768 of ints", judged(x, 2, 100, -32768, 4), 1);
    due("the least of ints", judged(x, 2, LOW, 9, LOW), -4);
    due("the least but one", judged(x, 2, LOW + 1, 9, 4), 0);
    due("bytes keep no 900", x.row(7, 0, 1) + x.put(7, 0, 900) + x.judge(0, 9, 7), 0);
    due("shorts do", x.row(7, 1, 1) + x.put(7, 0, 900) + x.judge(0, 9, 7), -4);
    int[] all = new int[100];
    for (int i = 0; i < 100; i++) all[i] = 9900 / (1 + 10 * i);
    Bench.fill(x, 6, 1, all);
    due("a hundred, up to tone 1000", x.judge(0, 99, 6), -4);
    x.put(6, 99, 8);
    due("the hundredth isn't", x.judge(0, 99, 6), 99);
    x.hand(0);
    due("as it is now", x.judge(0, 99, 6), 0);
    sentence("JUDGED of a PIECE at STRONG by the ROW in SHELF d; -4. -1, -11, -12 (no ROW).");
    due("PIECE -1", x.judge(-1, 1, 7), -1);
    due("PIECE 1 of 1", x.judge(1, 1, 7), -1);
    due("STRONG 0", x.judge(0, 0, 7), -1);
    due("STRONG 100", x.judge(0, 100, 7), -1);
    due("SHELF 8", x.judge(0, 1, 8), -1);
    due("SHELF -1", x.judge(0, 1, -1), -1);
    due("nothing", x.judge(0, 1, 5), -11);
    due("PIECE ahead of nothing", x.judge(1, 1, 5), -1);
    due("STRONG ahead of nothing", x.judge(0, 0, 5), -1);
    due("a THING", judgedByAThing(1), -12);
    due("PIECE ahead of a THING", judgedByAThing(99), -1);
  }

  private static int judgedByAThing(int strong) {
    FiddleBuzz x = with("p10 1 1;t00 1 0 1;");
    x.keep(5, 1, 0);
    return strong == 1 ? x.judge(0, 1, 5) : x.judge(1, strong, 5);
  }

  private static void images() {
    sentence("THE IMAGE: all that there is, but SHELVES (and THE IMAGE); RESTORED all is as it was then.");
    FiddleBuzz x = with("p100 1 10;p200 2 10j0 50;t00 50 0 7;t11 90 5 8;");
    x.wax(1, 3);
    x.hand(1);
    for (int what = 0; what < 4; what++) x.set(what, new int[] {4, 1, 2, -5}[what]);
    x.ask(100, 1, true);
    due("one ASK then", x.image(), 1);
    x.forget();
    Bench.read(x, "p300 3 3;t72 9 9 9;d9;w0;r1;");
    x.wax(0, 9);
    x.wax(1, 9);
    x.wax(2, 9);
    x.hand(0);
    x.set(3, 5);
    x.ask(200, 1, false);
    x.ask(200, 1, false);
    due("one ASK again", x.restore(), 1);
    int[] counts = {2, 2, 1, 3, 1, 15};
    for (int i = 0; i < 6; i++) due("count " + i, x.count(i), counts[i]);
    due("no PIECE 2", x.piece(2, 0), -1);
    due("no THING 2", x.thing(2, 0), -1);
    due("WAX on 0", x.piece(0, 5), 0);
    due("WAX on 1", x.piece(1, 5), 3);
    for (int what = 0; what < 4; what++) due("set " + what, x.set(what, 0), new int[] {4, 1, 2, -5}[what]);
    due("HAND", x.hand(-1), 1);
    due("the ASK as it was", x.fits(), 1);
    FiddleBuzz w = with("p100 1 1;t50 1 0 1;");
    w.image();
    Bench.read(w, "p100 1 1;p100 1 1;p100 1 1;");
    due("WITHIN of four", w.buzzes(0, 100, 1, 0), 100);
    w.restore();
    due("WITHIN of the one that is left", w.buzzes(0, 100, 1, 0), 25);
    sentence("when THE IMAGE is RESTORED, SHELVES stay as they are");
    FiddleBuzz y = with("p100 1 10;t00 50 0 7;");
    y.image();
    Bench.read(y, "t41 50 5 7;");
    Bench.read(y, "t40 50 5 7;");
    y.keep(1, 1, 1);
    Bench.fill(y, 2, 2, 77);
    due("RESTORED", y.restore(), 0);
    due("one THING", y.count(1), 1);
    due("the other is on its SHELF", y.price(1), 50);
    due("with its FAILURE", y.toss(1), 101);
    due("the ROW", y.element(2, 0), 77);
    due("the text", y.element(0, 0), 't');
    due("it isn't to be had any more", y.keep(3, 1, 1), -1);
    sentence("THE IMAGE is RESTORED: how many ASKS. -3: there is none.");
    due("none", with("p100 1 10;").restore(), -3);
    due("none, new", new FiddleBuzz().restore(), -3);
    due("once more", y.restore(), 0);
    due("of nothing", ofNothing(), 0);
    sentence("THE IMAGE is taken: how many ASKS.");
    due("none", y.image(), 0);
    for (int i = 0; i < 24; i++) y.ask(100, 1, true);
    due("24", y.image(), 24);
    y.forget();
    due("the later one counts", y.restore(), 24);
    due("full again", y.ask(100, 1, true), -2);
    due("it stays, though ASKS go", y.forget() + y.restore(), 48);
  }

  /** What is there after a new object's IMAGE is RESTORED. */
  private static int ofNothing() {
    FiddleBuzz x = new FiddleBuzz();
    due("of a new object", x.image(), 0);
    Bench.read(x, "p100 1 10;t00 50 0 7;d5;");
    x.wax(0, 20);
    x.hand(0);
    due("RESTORED", x.restore(), 0);
    due("DRY", x.set(0, 0), 0);
    due("HAND", x.hand(-1), -4);
    due("a PIECE again", Bench.read(x, "p100 1 10;"), 1);
    due("without WAX", x.piece(0, 5), 0);
    return x.count(1) + x.count(2) + x.count(3);
  }

  private static void saidOnceMore() {
    sentence("of a KIND (or SORT) \"n more\", \"n less\" without more words is: than what the one it is under has");
    FiddleBuzz x = with("p100 1 10;t30 50 5 7;t40 50 5 7;t60 50 5 7;t70 50 5 7;t10 50 5 7;");
    due("FITTED less 3", x.thing(0, 5), 5 - 3);
    due("CRACKED: a SEAMED's and 40", x.thing(1, 5), x.thing(4, 5) + 40);
    due("WORN less 5", x.thing(2, 5), 0);
    due("ROOMED: a WORN's and 1", x.thing(3, 5), 1);
    sentence("\"a by b, cut\" is a divided by b, toward 0");
    due("99 by 2", with("p100 1 10;t40 99 0 1;").buzzes(0, 100, 1, 1), 49);
    due("less, never below 0: SWINGS of 0", x.swing(0, 1200, 1), 0);
    sentence("\"a and b\" of two numbers is their sum");
    due("SEAMED 5 and FIGURE", x.thing(4, 5), 10);
    due("FITTED: GAP and 10 FIGURE", x.buzzes(0, 100, 1, 1), 100);
    sentence("0 PIECES, 1 THINGS, 2 ASKS, 3 all WAX, 4 ASKS at which a buzz was heard, 5 all CHANCES; -1 for others.");
    for (int i = 0; i < 6; i++) due("new, " + i, new FiddleBuzz().count(i), 0);
    FiddleBuzz full = with("p10 1 1;p10 1 1;p10 1 1;p10 1 1;p10 1 1;p10 1 1;p10 1 1;p10 1 1;p10 1 1;p10 1 1;", "t00 1 0 99;t00 1 0 99;t00 1 0 99;t00 1 0 99;", "t00 1 0 99;t00 1 0 99;t00 1 0 99;");
    for (int i = 0; i < 10; i++) full.wax(i, 20);
    for (int i = 0; i < 24; i++) full.ask(1200, 99, i > 0);
    int[] most = {10, 7, 24, 200, 23, 693};
    for (int i = 0; i < 6; i++) due("the most, " + i, full.count(i), most[i]);
    due("-1", full.count(-1), -1);
    due("6", full.count(6), -1);
    due("far", full.count(LOW), -1);
    due("far above", full.count(HIGH), -1);
  }

  public static void main(String[] args) throws Exception {
    fridays();
    wolves();
    endsOf();
    rattlesOf();
    harms();
    hairs();
    judgedOf();
    images();
    saidOnceMore();
    Bench.end();
  }
}
