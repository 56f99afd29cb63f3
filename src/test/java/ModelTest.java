import java.util.Random;

/** Runs of drawn calls (the same at each start) on FiddleBuzz and on Model, which must answer alike. */
public final class ModelTest {
  private static final int RUNS = 1500;
  private static final int CALLS = 500;

  private final Random random;
  private final FiddleBuzz real = new FiddleBuzz();
  private final Model model = new Model();
  private final StringBuilder told = new StringBuilder();
  private int wrong;

  private ModelTest(long seed) {
    random = new Random(seed);
  }

  public static void main(String[] args) {
    int wrong = 0;
    for (int run = 0; run < RUNS && wrong < 5; run++) {
      ModelTest test = new ModelTest(run);
      for (int i = 0; i < CALLS && test.wrong == 0; i++) test.call(run < RUNS / 2);
      wrong += test.wrong;
    }
    System.out.println(wrong == 0 ? RUNS + " runs answer as the model does" : wrong + " runs don't");
    if (wrong != 0) System.exit(1);
  }

  private void due(String call, long got, long want) {
    told.append(call).append(" = ").append(got).append('\n');
    if (got == want) return;
    wrong++;
    String all = told.toString();
    System.out.println(all.substring(Math.max(0, all.length() - 3000)) + "due is " + want);
  }

  private int upTo(int least, int most) { return least + random.nextInt(most - least + 1); }

  /** A number in a range, at times just beside it or far off. */
  private int about(int least, int most) {
    int kind = random.nextInt(60);
    if (kind == 0) return least - 1;
    if (kind == 1) return most + 1;
    if (kind == 2) return random.nextBoolean() ? Integer.MIN_VALUE : Integer.MAX_VALUE;
    if (kind < 6) return random.nextBoolean() ? least : most;
    return upTo(least, most);
  }

  private int aPiece() { return about(0, Math.max(0, model.world.pieces.size() - 1)); }
  private int aThing() { return about(0, Math.max(0, model.world.things.size() - 1)); }

  /** A tone, rather often near one of a PIECE. */
  private int aTone() {
    int n = model.world.pieces.size();
    if (n == 0 || random.nextInt(3) == 0) return about(1, 1200);
    int p = random.nextInt(n);
    return Math.max(1, model.world.toneNow(p, model.world.how.wax[p]) / (random.nextInt(4) == 0 ? 2 : 1) + upTo(-9, 9));
  }
  private int aStrong() { return about(1, 99); }
  private int aShelf() { return about(0, 7); }

  private String statement(boolean sound) {
    int n = model.world.pieces.size();
    int wide = sound ? 0 : random.nextInt(25) == 0 ? 1 : 0;
    switch (random.nextInt(10)) {
      case 0: case 1: case 2: case 3: {
        int close = n > 0 && random.nextBoolean() ? model.world.pieces.get(n - 1).tone + upTo(-7, 7) : upTo(10, 600);
        int tone = wide == 1 && random.nextBoolean() ? upTo(0, 999) : Math.max(10, Math.min(600, close));
        String s = "p" + tone + " " + upTo(1 - wide, random.nextInt(4) == 0 ? 99 + wide : 12) + " " + upTo(1 - wide, 99 + wide);
        if (n > 0 && random.nextInt(4) != 0) s += "j" + upTo(0, Math.min(9, n - 1 + wide)) + " " + upTo(0, 99 + wide);
        return s + ";";
      }
      case 4: case 5: case 6: case 7:
        return "t" + upTo(0, 7 + wide) + upTo(0, Math.min(9, Math.max(0, n - 1 + wide))) + " "
            + upTo(1 - wide, random.nextInt(4) == 0 ? 999 : 120) + " " + upTo(0, 9) + " " + upTo(1 - wide, 99 + wide) + ";";
      case 8: return "d" + upTo(0, 20 + wide) + ";";
      default: return random.nextBoolean() ? "w" + upTo(0, 1 + wide) + ";" : "r" + upTo(0, 3 + wide) + ";";
    }
  }

  private void text(boolean sound) {
    StringBuilder b = new StringBuilder();
    for (int k = upTo(1, 4); k > 0; k--) b.append(statement(sound));
    String signs = "ptdwrj; 0123456789x";
    for (int k = sound || random.nextInt(3) > 0 ? 0 : upTo(1, 2); k > 0 && b.length() > 0; k--) {
      int at = random.nextInt(b.length());
      int how = random.nextInt(4);
      if (how == 0) b.deleteCharAt(at);
      else if (how == 1) b.insert(at, signs.charAt(random.nextInt(signs.length())));
      else if (how == 2) b.setCharAt(at, signs.charAt(random.nextInt(signs.length())));
      else b.setLength(at);
    }
    int size = Math.min(100, b.length());
    due("row(0, 0, " + size + ")", real.row(0, 0, size), model.row(0, 0, size));
    for (int i = 0; i < size; i++) {
      if (real.put(0, i, b.charAt(i)) != 0 | model.put(0, i, b.charAt(i)) != 0) due("put(0, " + i + ", ..)", -99, 0);
    }
    due("instrument " + b, real.instrument(0), model.instrument(0));
  }

  private void tones() {
    int d = upTo(1, 4);
    int size = random.nextInt(5) == 0 ? upTo(0, 13) : upTo(1, 6);
    int sort = random.nextInt(5) == 0 ? 0 : upTo(1, 2);
    due("row(" + d + ", " + sort + ", " + size + ")", real.row(d, sort, size), model.row(d, sort, size));
    for (int i = 0; i < size; i++) {
      int f = random.nextInt(40) == 0 ? upTo(-1, 1202) : aTone();
      due("put(" + d + ", " + i + ", " + f + ")", real.put(d, i, f), model.put(d, i, f));
    }
  }

  private void swingsTold() {
    int d = upTo(5, 7);
    int sort = upTo(0, 2);
    int size = upTo(0, 12);
    int p = aPiece();
    int s = aStrong();
    due("row(" + d + ", " + sort + ", " + size + ")", real.row(d, sort, size), model.row(d, sort, size));
    for (int i = 0; i < size; i++) {
      int v = model.swing(p, 10 * i + 10, s) + (random.nextInt(12) == 0 ? 1 : 0);
      if (random.nextInt(6) == 0) v = new int[] {-128, -32768, Integer.MIN_VALUE}[upTo(0, 2)];
      due("put(" + d + ", " + i + ", " + v + ")", real.put(d, i, v), model.put(d, i, v));
    }
    due("judge(" + p + ", " + s + ", " + d + ")", real.judge(p, s, d), model.judge(p, s, d));
  }

  private static long outcome(java.util.function.LongSupplier call) {
    try {
      return call.getAsLong();
    } catch (IllegalArgumentException e) {
      return Long.MIN_VALUE;
    } catch (IllegalStateException e) {
      return Long.MAX_VALUE;
    }
  }

  private void call(boolean sound) {
    switch (random.nextInt(5)) {
      case 0: instruments(sound); break;
      case 1: swings(); break;
      case 2: asks(); break;
      case 3: works(); break;
      default: shelves(); break;
    }
  }

  private void instruments(boolean sound) {
    int a = aPiece(), b = aThing(), n = about(0, 20), w = about(0, 7);
    switch (random.nextInt(12)) {
      case 0: case 1: case 2: text(sound); break;
      case 3: case 4: due("piece(" + a + ", " + w + ")", real.piece(a, w), model.piece(a, w)); break;
      case 5: due("thing(" + b + ", " + w + ")", real.thing(b, w), model.thing(b, w)); break;
      case 6: case 7: due("wax(" + a + ", " + n + ")", real.wax(a, n), model.wax(a, n)); break;
      case 8: {
        int h = random.nextInt(4) == 0 ? -1 : a;
        due("hand(" + h + ")", real.hand(h), model.hand(h));
        break;
      }
      default: {
        int what = about(0, 3);
        int to = what == 0 ? n : what == 1 ? about(0, 1) : what == 2 ? about(0, 3) : about(-9, 9);
        due("set(" + what + ", " + to + ")", real.set(what, to), model.set(what, to));
      }
    }
  }

  private void swings() {
    int a = aPiece(), b = aThing(), f = aTone(), s = aStrong(), i = about(-1, 3), w = about(0, 2);
    switch (random.nextInt(7)) {
      case 0: due("swing(" + a + ", " + f + ", " + s + ")", real.swing(a, f, s), model.swing(a, f, s)); break;
      case 1: due("buzzes(" + b + ", " + f + ", " + s + ", " + w + ")", real.buzzes(b, f, s, w), model.buzzes(b, f, s, w)); break;
      case 2: due("heard(" + f + ", " + s + ")", real.heard(f, s), model.heard(f, s)); break;
      case 3: due("bands(" + b + ", " + s + ", " + i + ", " + w + ")", real.bands(b, s, i, w), model.bands(b, s, i, w)); break;
      case 4: due("loudest(" + a + ", " + s + ")", real.loudest(a, s), model.loudest(a, s)); break;
      case 5: due("softest(" + b + ", " + f + ")", real.softest(b, f), model.softest(b, f)); break;
      default: due("count(" + i + ")", real.count(i), model.count(i)); break;
    }
  }

  private void asks() {
    int a = aThing(), b = aThing(), f = aTone(), s = aStrong(), w = about(0, 1), d = aShelf();
    boolean yes = random.nextBoolean();
    switch (random.nextInt(16)) {
      case 0: case 1: case 2: {
        // Mostly as one THING would have it, so that some FIT for long.
        int one = Math.max(0, model.world.things.size() / 2);
        boolean heard = random.nextInt(8) == 0 ? yes : model.buzzes(one, f, s, 2) == 1;
        due("ask(" + f + ", " + s + ", " + heard + ")", real.ask(f, s, heard), model.ask(f, s, heard));
        break;
      }
      case 3: if (random.nextInt(4) == 0) due("forget()", real.forget(), model.forget()); break;
      case 4: due("fits()", real.fits(), model.fits()); break;
      case 5: case 6: due("both(" + a + ", " + b + ")", real.both(a, b), model.both(a, b)); break;
      case 7: case 8: due("odds(" + a + ", " + yes + ", " + w + ")", real.odds(a, yes, w), model.odds(a, yes, w)); break;
      case 9: due("which()", real.which(), model.which()); break;
      case 10: due("next(" + s + ")", real.next(s), model.next(s)); break;
      case 11: tones(); break;
      case 12: case 13: due("fewest(" + d + ", " + s + ")", real.fewest(d, s), model.fewest(d, s)); break;
      case 14: due("length(" + a + ", " + w + ")", real.length(a, w), model.length(a, w)); break;
      default: due("count(4)", real.count(4), model.count(4)); break;
    }
  }

  private void works() {
    int a = aPiece(), b = aThing(), c = aThing(), f = aTone(), s = aStrong(), w = about(0, 1), d = aShelf(), n = about(0, 20), i = about(-1, 2);
    switch (random.nextInt(13)) {
      case 0: due("shift(" + a + ", " + n + ")", real.shift(a, n), model.shift(a, n)); break;
      case 1: {
        int shift = about(0, 60), m = random.nextBoolean() ? about(0, 99) : about(0, 4);
        due("lives(" + n + ", " + shift + ", " + m + ")", real.lives(n, shift, m), model.lives(n, shift, m));
        break;
      }
      case 2: due("seamOrCrack(" + b + ", " + c + ", " + f + ")", real.seamOrCrack(b, c, f), model.seamOrCrack(b, c, f)); break;
      case 3: tones(); break;
      case 4: due("friday(" + d + ", " + s + ", " + w + ")", real.friday(d, s, w), model.friday(d, s, w)); break;
      case 5: due("wolf(" + i + ")", real.wolf(i), model.wolf(i)); break;
      case 6: due("beats(" + i + ")", real.beats(i), model.beats(i)); break;
      case 7: due("ends(" + w + ")", real.ends(w), model.ends(w)); break;
      case 8: due("rattles(" + d + ", " + s + ", " + w + ")", real.rattles(d, s, w), model.rattles(d, s, w)); break;
      case 9: due("harm(" + n + ")", real.harm(n), model.harm(n)); break;
      case 10: {
        int more = about(-18, 18);
        due("hair(" + a + ", " + f + ", " + s + ", " + more + ")", real.hair(a, f, s, more), model.hair(a, f, s, more));
        break;
      }
      case 11: swingsTold(); break;
      default: due("judge(" + a + ", " + s + ", " + d + ")", real.judge(a, s, d), model.judge(a, s, d)); break;
    }
  }

  private void shelves() {
    int d = aShelf(), e = aShelf(), k = aThing(), w = about(0, 1), i = about(0, 8), j = about(0, 8), n = about(0, 8);
    switch (random.nextInt(14)) {
      case 0: if (random.nextInt(4) == 0) due("image()", real.image(), model.image()); break;
      case 1: if (random.nextInt(4) == 0) due("restore()", real.restore(), model.restore()); break;
      case 2: case 3: due("keep(" + d + ", " + w + ", " + k + ")", real.keep(d, w, k), model.keep(d, w, k)); break;
      case 4: {
        int sort = about(0, 2), size = random.nextInt(4) == 0 ? about(0, 100) : about(0, 9);
        due("row(" + d + ", " + sort + ", " + size + ")", real.row(d, sort, size), model.row(d, sort, size));
        break;
      }
      case 5: case 6: {
        int v = random.nextBoolean() ? random.nextInt() : upTo(-200, 200);
        due("put(" + d + ", " + i + ", " + v + ")", real.put(d, i, v), model.put(d, i, v));
        break;
      }
      case 7: case 8: due("element(" + d + ", " + i + ")", outcome(() -> real.element(d, i)), outcome(() -> model.element(d, i))); break;
      case 9: case 10: {
        String call = "copy(" + d + ", " + i + ", " + e + ", " + j + ", " + n + ")";
        due(call, real.copy(d, i, e, j, n), model.copy(d, i, e, j, n));
        break;
      }
      case 11: due("price(" + d + ")", real.price(d), model.price(d)); break;
      default: due("toss(" + d + ")", real.toss(d), model.toss(d)); break;
    }
  }
}
