import java.math.BigInteger;
import java.util.ArrayList;
import java.util.List;
import java.util.regex.Matcher;
import java.util.regex.Pattern;

/**
 * The document a second time, written apart from FiddleBuzz in another way (kinds as classes, recursion,
 * brute force, a regular expression for texts, every ASK with all that there was): ModelTest compares both.
 */
final class Model {
  static final class P { int tone, loss, weight, joined = -1, pass; }

  static final class How {
    int[] wax = new int[10];
    int hand = -1;
    int[] set = new int[4];
    How copy() {
      How h = new How();
      h.wax = wax.clone();
      h.hand = hand;
      h.set = set.clone();
      return h;
    }
  }

  static final class A { int f, strong; boolean heard; How how; }

  /** Kind 0; those below say what differs. */
  static class Buzz {
    int number, kind, piece, gap, figure, chance;
    int swings(World w, How h, int f, int s) { return w.swing(piece, h, f, s); }
    int strikes(World w, How h, int gap) { return gap; }
    int price() { return 5; }
    int failure() { return figure == 0 ? -15 : number; }
  }
  static class Seamed extends Buzz {
    int strikes(World w, How h, int gap) { return Math.max(1, super.strikes(w, h, gap) - h.set[0] * figure); }
    int price() { return super.price() + figure; }
  }
  static class Stringed extends Buzz {
    int swings(World w, How h, int f, int s) { return Math.max(super.swings(w, h, f, s), super.swings(w, h, 2 * f, s)); }
    int price() { return 3 * super.price(); }
  }
  static class Fitted extends Buzz {
    int strikes(World w, How h, int gap) { return super.strikes(w, h, gap) + 10 * figure; }
    int price() { return super.price() - 3; }
    int failure() { return -15; }
  }
  static final class Cracked extends Seamed {
    int strikes(World w, How h, int gap) { return Math.max(1, super.strikes(w, h, gap) / 2); }
    int price() { return super.price() + 40; }
    int failure() { return super.failure() < 0 ? -15 : super.failure() + 100; }
  }
  static final class Within extends Buzz {
    int swings(World w, How h, int f, int s) {
      int all = 0;
      for (int i = 0; i < w.pieces.size(); i++) all += w.swing(i, h, f, s);
      return all / 4;
    }
    int price() { return 2 * super.price() + figure; }
  }
  static class Worn extends Buzz {
    int swings(World w, How h, int f, int s) { return h.set[1] == 1 ? super.swings(w, h, f, s) : 0; }
    int strikes(World w, How h, int gap) { return gap + w.lossNow(piece, h); }
    int price() { return super.price() - 5; }
  }
  static final class Roomed extends Worn {
    int swings(World w, How h, int f, int s) { return h.set[2] == figure % 4 ? s * (figure + 1) : 0; }
    int strikes(World w, How h, int gap) { return gap; }
    int price() { return super.price() + 1; }
    int failure() { return super.failure() < 0 ? -15 : 200 + price(); }
  }

  static final class World {
    List<P> pieces = new ArrayList<>();
    List<Buzz> things = new ArrayList<>();
    List<A> asks = new ArrayList<>();
    How how = new How();

    World copy() {
      World w = new World();
      w.pieces.addAll(pieces);
      w.things.addAll(things);
      w.asks.addAll(asks);
      w.how = how.copy();
      return w;
    }
    int toneNow(int i, int wax) {
      P p = pieces.get(i);
      return p.tone - p.tone * wax / (2 * p.weight + wax);
    }
    int lossNow(int i, How h) { return pieces.get(i).loss * (h.hand == i ? 2 : 1); }
    int swing(int i, How h, int f, int s) {
      P p = pieces.get(i);
      int own = s * 100 / (lossNow(i, h) + Math.abs(f - toneNow(i, h.wax[i])));
      if (p.joined < 0) return own;
      int hundredths = Math.min(99, Math.max(0, p.pass + h.set[3]));
      return own + hundredths * swing(p.joined, h, f, s) / 100;
    }
    boolean buzzes(Buzz t, How h, int f, int s) { return t.swings(this, h, f, s) > t.strikes(this, h, t.gap); }
    boolean buzzes(int t, int f, int s) { return buzzes(things.get(t), how, f, s); }
    boolean fits(int... set) {
      for (A a : asks) {
        boolean some = false;
        for (int t : set) some |= buzzes(things.get(t), a.how, a.f, a.strong);
        if (some != a.heard) return false;
      }
      return true;
    }
  }

  World world = new World();
  World picture;
  Object[] shelves = new Object[8];
  static final class R { int sort; long[] v; }

  static boolean in(long n, long a, long b) { return a <= n && n <= b; }
  boolean isPiece(int i) { return in(i, 0, world.pieces.size() - 1); }
  boolean isThing(int i) { return in(i, 0, world.things.size() - 1); }
  static boolean isF(int f) { return in(f, 1, 1200); }
  static boolean isS(int s) { return in(s, 1, 99); }
  static boolean isD(int d) { return in(d, 0, 7); }

  static final String N = "(?:0|[1-9][0-9]{0,2})";
  static final String ONE = "(?:p(N) (N) (N)(?:j([0-9]) (N))?|t([0-9])([0-9]) (N) ([0-9]) (N)|d(N)|w([0-9])|r([0-9]));".replace("N", N);
  static final Pattern STATEMENT = Pattern.compile(ONE);
  static final Pattern ALL = Pattern.compile("(?:" + ONE + ")+");

  int instrument(int d) {
    if (!isD(d)) return -1;
    if (shelves[d] == null) return -11;
    if (!(shelves[d] instanceof R r) || r.sort != 0) return -12;
    StringBuilder b = new StringBuilder();
    for (long v : r.v) b.append((char) (v & 255));
    String text = b.toString();
    for (int i = 1; i <= text.length(); i++) {
      Matcher m = ALL.matcher(text.substring(0, i));
      if (!m.matches() && !m.hitEnd()) return -1000 - (i - 1);
    }
    if (!ALL.matcher(text).matches()) return -1000 - text.length();
    World w = world.copy();
    Matcher m = STATEMENT.matcher(text);
    int n = 0;
    for (; m.find(); n++) if (!statement(w, m)) return -2000 - m.start();
    world = w;
    return n;
  }

  static int num(Matcher m, int g) { return Integer.parseInt(m.group(g)); }

  static boolean statement(World w, Matcher m) {
    switch (m.group().charAt(0)) {
      case 'p': {
        P p = new P();
        p.tone = num(m, 1);
        p.loss = num(m, 2);
        p.weight = num(m, 3);
        if (m.group(4) != null) { p.joined = num(m, 4); p.pass = num(m, 5); }
        if (!w.asks.isEmpty() || w.pieces.size() == 10 || p.joined >= w.pieces.size()) return false;
        if (!in(p.tone, 10, 600) || !in(p.loss, 1, 99) || !in(p.weight, 1, 99) || !in(p.pass, 0, 99)) return false;
        w.pieces.add(p);
        return true;
      }
      case 't': {
        if (num(m, 6) > 7) return false;
        Buzz t = new Buzz[] {new Buzz(), new Seamed(), new Stringed(), new Fitted(), new Cracked(), new Within(), new Worn(), new Roomed()}[num(m, 6)];
        t.kind = num(m, 6);
        t.piece = num(m, 7);
        t.gap = num(m, 8);
        t.figure = num(m, 9);
        t.chance = num(m, 10);
        t.number = w.things.size();
        if (!w.asks.isEmpty() || t.number == 7 || t.piece >= w.pieces.size()) return false;
        if (!in(t.gap, 1, 999) || !in(t.chance, 1, 99)) return false;
        w.things.add(t);
        return true;
      }
      case 'd': w.how.set[0] = num(m, 11); return w.how.set[0] <= 20;
      case 'w': w.how.set[1] = num(m, 12); return w.how.set[1] <= 1;
      default: w.how.set[2] = num(m, 13); return w.how.set[2] <= 3;
    }
  }

  int piece(int i, int what) {
    if (!isPiece(i) || !in(what, 0, 7)) return -1;
    P p = world.pieces.get(i);
    return new int[] {p.tone, p.loss, p.weight, p.joined < 0 ? -4 : p.joined, p.pass, world.how.wax[i],
        world.toneNow(i, world.how.wax[i]), world.lossNow(i, world.how)}[what];
  }

  int thing(int i, int what) {
    if (!isThing(i) || !in(what, 0, 5)) return -1;
    Buzz t = world.things.get(i);
    return new int[] {t.kind, t.piece, t.gap, t.figure, t.chance, t.price()}[what];
  }

  int wax(int i, int n) {
    if (!isPiece(i) || !in(n, 0, 20)) return -1;
    int was = world.how.wax[i];
    world.how.wax[i] = n;
    return was;
  }

  int hand(int i) {
    if (i != -1 && !isPiece(i)) return -1000000001;
    int was = world.how.hand;
    world.how.hand = i;
    return was == -1 ? -4 : was;
  }

  int set(int what, int n) {
    if (!in(what, 0, 3) || !in(n, what == 3 ? -9 : 0, new int[] {20, 1, 3, 9}[what])) return -1000000001;
    int was = world.how.set[what];
    world.how.set[what] = n;
    return was;
  }

  int swing(int i, int f, int s) { return !isPiece(i) || !isF(f) || !isS(s) ? -1 : world.swing(i, world.how, f, s); }

  int buzzes(int i, int f, int s, int what) {
    if (!isThing(i) || !isF(f) || !isS(s) || !in(what, 0, 2)) return -1;
    Buzz t = world.things.get(i);
    if (what == 0) return t.swings(world, world.how, f, s);
    if (what == 1) return t.strikes(world, world.how, t.gap);
    return world.buzzes(i, f, s) ? 1 : 0;
  }

  int bits(int f, int s) {
    int b = 0;
    for (int t = 0; t < world.things.size(); t++) if (world.buzzes(t, f, s)) b |= 1 << t;
    return b;
  }

  int heard(int f, int s) { return !isF(f) || !isS(s) ? -1 : bits(f, s); }

  int bands(int i, int s, int n, int what) {
    if (!isThing(i) || !isS(s) || n < -1 || !in(what, 0, 1)) return -1;
    List<int[]> bands = new ArrayList<>();
    for (int f = 1; f <= 600; f++) {
      if (!world.buzzes(i, f, s)) continue;
      if (!bands.isEmpty() && bands.get(bands.size() - 1)[1] == f - 1) bands.get(bands.size() - 1)[1] = f;
      else bands.add(new int[] {f, f});
    }
    if (n == -1) return bands.size();
    return n < bands.size() ? bands.get(n)[what] : -4;
  }

  int loudest(int i, int s) {
    if (!isPiece(i) || !isS(s)) return -1;
    int best = 600;
    for (int f = 599; f > 0; f--) if (world.swing(i, world.how, f, s) >= world.swing(i, world.how, best, s)) best = f;
    return best;
  }

  int softest(int i, int f) {
    if (!isThing(i) || !isF(f)) return -1;
    int best = -4;
    for (int s = 99; s > 0; s--) if (world.buzzes(i, f, s)) best = s;
    return best;
  }

  int ask(int f, int s, boolean heard) {
    if (!isF(f) || !isS(s)) return -1;
    if (world.asks.size() == 24) return -2;
    if (world.things.isEmpty()) return -3;
    A a = new A();
    a.f = f;
    a.strong = s;
    a.heard = heard;
    a.how = world.how.copy();
    world.asks.add(a);
    return world.asks.size();
  }

  int forget() {
    int n = world.asks.size();
    world.asks.clear();
    return n;
  }

  List<Integer> fitting() {
    List<Integer> all = new ArrayList<>();
    for (int t = 0; t < world.things.size(); t++) if (world.fits(t)) all.add(t);
    return all;
  }

  int fits() {
    if (world.things.isEmpty()) return -3;
    int b = 0;
    for (int t : fitting()) b |= 1 << t;
    return b;
  }

  int both(int a, int b) { return !isThing(a) || !isThing(b) || a == b ? -1 : world.fits(a, b) ? 1 : 0; }

  int odds(int t, boolean two, int part) {
    if (!isThing(t) || !in(part, 0, 1)) return -1;
    int above = 0, below = 0;
    for (int a = 0; a < world.things.size(); a++) {
      for (int b = 0; b < world.things.size(); b++) {
        boolean counts = two ? b > a && world.fits(a, b) : b == a && world.fits(a);
        if (!counts) continue;
        int weight = world.things.get(a).chance * (two ? world.things.get(b).chance : 1);
        below += weight;
        if (t == a || t == b) above += weight;
      }
    }
    if (below == 0) return -4;
    int g = BigInteger.valueOf(above).gcd(BigInteger.valueOf(below)).intValue();
    return part == 0 ? above / g : below / g;
  }

  int which() {
    int best = -4;
    for (int t : fitting()) if (best < 0 || world.things.get(t).chance > world.things.get(best).chance) best = t;
    return best;
  }

  int next(int s) {
    if (!isS(s)) return -1;
    List<Integer> fit = fitting();
    if (fit.isEmpty()) return -4;
    double all = 0;
    for (int t : fit) all += world.things.get(t).chance;
    int best = -4;
    double least = 1e9;
    for (int f = 10; f <= 600; f += 10) {
      double some = 0;
      for (int t : fit) if (world.buzzes(t, f, s)) some += world.things.get(t).chance;
      double off = Math.abs(some - all / 2);
      if (off < least) { least = off; best = f; }
    }
    return best;
  }

  /** 0, or why SHELF d has no ROW of at most so many tones. */
  int tones(int d, boolean ok, int most) {
    if (!isD(d) || !ok) return -1;
    if (shelves[d] == null) return -11;
    if (!(shelves[d] instanceof R r)) return -12;
    for (long v : r.v) if (!in(v, 1, 1200)) return -13;
    return r.v.length > most ? -13 : 0;
  }

  int fewest(int d, int s) {
    int no = tones(d, isS(s), 6);
    if (no != 0) return no;
    List<Integer> fit = fitting();
    return fit.isEmpty() ? -4 : fewest(fit, ((R) shelves[d]).v, s);
  }

  int fewest(List<Integer> left, long[] tones, int s) {
    int best = Integer.MAX_VALUE;
    for (long f : tones) {
      List<Integer> yes = new ArrayList<>(), no = new ArrayList<>();
      for (int t : left) (world.buzzes(t, (int) f, s) ? yes : no).add(t);
      if (yes.isEmpty() || no.isEmpty()) continue;
      best = Math.min(best, 1 + Math.max(fewest(yes, tones, s), fewest(no, tones, s)));
    }
    return best == Integer.MAX_VALUE ? 0 : best;
  }

  int shift(int i, int n) {
    if (!isPiece(i) || !in(n, 0, 20)) return -1;
    int w = world.how.wax[i];
    return w + n > 20 ? -3 : world.toneNow(i, w) - world.toneNow(i, w + n);
  }

  int lives(int n, int told, int m) {
    if (!in(n, 0, 20) || !in(m, 0, 99)) return -1;
    int b = 0;
    for (int i = 0; i < world.pieces.size(); i++) {
      int got = shift(i, n);
      if (got != -3 && in(got, (long) told - m, (long) told + m)) b |= 1 << i;
    }
    return b;
  }

  int seamOrCrack(int a, int b, int f) {
    if (!isThing(a) || !isThing(b) || a == b || !isF(f)) return -1;
    if (world.things.get(a).piece != world.things.get(b).piece) return -1;
    for (int s = 1; s <= 99; s++) if (world.buzzes(a, f, s) ^ world.buzzes(b, f, s)) return s;
    return -4;
  }

  int length(int i, int what) {
    if (!isThing(i) || !in(what, 0, 1)) return -1;
    Buzz t = world.things.get(i);
    int best = -4;
    for (int k = 1; k <= 999; k++) {
      int gap = what == 0 ? 1000 - k : k;
      boolean all = true;
      for (A a : world.asks) all = all && t.swings(world, a.how, a.f, a.strong) > t.strikes(world, a.how, gap) == a.heard;
      if (all) best = gap;
    }
    return best;
  }

  int friday(int d, int s, int what) {
    int no = tones(d, isS(s) && in(what, 0, 1), 100);
    if (no != 0) return no;
    int buzzing = 0;
    for (long f : ((R) shelves[d]).v) buzzing |= bits((int) f, s);
    int best = 0, least = Integer.MAX_VALUE;
    for (int set = 0; set < 1 << world.things.size(); set++) {
      int price = 0;
      for (Buzz t : world.things) if ((set >> t.number & 1) == 1) price += t.price();
      if ((buzzing & ~set) == 0 && price < least) { least = price; best = set; }
    }
    return what == 0 ? least : best;
  }

  List<int[]> wolves(How h) {
    List<int[]> all = new ArrayList<>();
    for (int a = 0; a < world.pieces.size(); a++) {
      for (int b = 0; b < world.pieces.size(); b++) {
        int apart = Math.abs(world.toneNow(a, h.wax[a]) - world.toneNow(b, h.wax[b]));
        if (world.pieces.get(b).joined == a && apart < 6) all.add(new int[] {10 * a + b, apart});
      }
    }
    return all;
  }

  int wolf(int i) {
    List<int[]> all = wolves(world.how);
    if (i < -1) return -1;
    return i == -1 ? all.size() : i < all.size() ? all.get(i)[0] : -4;
  }

  int beats(int i) {
    List<int[]> all = wolves(world.how);
    if (i < 0) return -1;
    if (i >= all.size()) return -4;
    return all.get(i)[1] == 0 ? 600 : 600 / all.get(i)[1];
  }

  int ends(int what) {
    if (!in(what, 0, 1)) return -1;
    if (world.pieces.isEmpty()) return -3;
    for (int n = 0; n <= 20; n++) {
      for (int i = 0; i < world.pieces.size(); i++) {
        How h = world.how.copy();
        h.wax[i] = n;
        if (wolves(h).isEmpty()) return what == 0 ? n : i;
      }
    }
    return -4;
  }

  int rattles(int d, int s, int what) {
    int no = tones(d, isS(s) && in(what, 0, 1), 10);
    if (no != 0) return no;
    long[] f = ((R) shelves[d]).v;
    int all = 0;
    for (long v : f) all |= bits((int) v, s);
    for (int n = 0; ; n++) {
      for (int set = 0; set < 1 << f.length; set++) {
        if (Integer.bitCount(set) != n) continue;
        int some = 0;
        for (int i = 0; i < f.length; i++) if ((set >> i & 1) == 1) some |= bits((int) f[i], s);
        if (some == all) return what == 0 ? n : set;
      }
    }
  }

  int harm(int n) {
    if (!in(n, 0, 20)) return -1;
    How later = world.how.copy();
    later.set[0] = Math.min(20, later.set[0] + n);
    int sum = 0;
    for (Buzz t : world.things) if (t instanceof Seamed) sum += t.strikes(world, world.how, t.gap) - t.strikes(world, later, t.gap);
    return sum;
  }

  int hair(int i, int f, int s, int n) {
    if (!isPiece(i) || !isF(f) || !isS(s) || !in(n, -18, 18)) return -1000000001;
    How other = world.how.copy();
    other.set[3] += n;
    if (!in(other.set[3], -9, 9)) return -1000000003;
    return world.swing(i, other, f, s) - world.swing(i, world.how, f, s);
  }

  int judge(int i, int s, int d) {
    if (!isPiece(i) || !isS(s) || !isD(d)) return -1;
    if (shelves[d] == null) return -11;
    if (!(shelves[d] instanceof R r)) return -12;
    long least = new long[] {-128, -32768, -2147483648L}[r.sort];
    for (int k = 0; k < r.v.length; k++) if (r.v[k] != least && r.v[k] != world.swing(i, world.how, 10 * (k + 1), s)) return k;
    return -4;
  }

  int image() {
    picture = world.copy();
    return world.asks.size();
  }

  int restore() {
    if (picture == null) return -3;
    world = picture.copy();
    return world.asks.size();
  }

  int count(int what) {
    int n = 0;
    switch (what) {
      case 0: return world.pieces.size();
      case 1: return world.things.size();
      case 2: return world.asks.size();
      case 3: for (int w : world.how.wax) n += w; return n;
      case 4: for (A a : world.asks) n += a.heard ? 1 : 0; return n;
      case 5: for (Buzz t : world.things) n += t.chance; return n;
      default: return -1;
    }
  }

  int keep(int d, int what, int k) {
    if (!isD(d) || !in(what, 0, 1) || what == 1 && !isThing(k)) return -1;
    shelves[d] = what == 0 ? null : world.things.get(k);
    return 0;
  }

  int row(int d, int sort, int n) {
    if (!isD(d) || !in(sort, 0, 2) || n > 100) return -1;
    if (n < 0) return -14;
    R r = new R();
    r.sort = sort;
    r.v = new long[n];
    shelves[d] = r;
    return 0;
  }

  int put(int d, int i, int v) {
    if (!isD(d)) return -1;
    if (shelves[d] == null) return -11;
    if (!(shelves[d] instanceof R r)) return -12;
    if (!in(i, 0, r.v.length - 1)) return -13;
    int unused = new int[] {24, 16, 0}[r.sort];
    r.v[i] = v << unused >> unused;
    return 0;
  }

  long element(int d, int i) {
    if (!isD(d)) throw new IllegalArgumentException();
    if (!(shelves[d] instanceof R r) || !in(i, 0, r.v.length - 1)) throw new IllegalStateException();
    return r.v[i];
  }

  int copy(int d, int i, int e, int j, int n) {
    if (!isD(d) || !isD(e)) return -1;
    if (shelves[d] == null || shelves[e] == null) return -11;
    if (!(shelves[d] instanceof R a) || !(shelves[e] instanceof R b) || a.sort != b.sort) return -12;
    if (n < 0 || i < 0 || j < 0 || (long) i + n > a.v.length || (long) j + n > b.v.length) return -13;
    long[] from = a.v.clone();
    for (int k = 0; k < n; k++) b.v[j + k] = from[i + k];
    return n;
  }

  int price(int d) {
    if (!isD(d)) return -1;
    return shelves[d] == null ? -11 : shelves[d] instanceof Buzz t ? t.price() : -12;
  }

  int toss(int d) {
    if (!isD(d)) return -1;
    return shelves[d] == null ? -11 : shelves[d] instanceof Buzz t ? t.failure() : -12;
  }
}
