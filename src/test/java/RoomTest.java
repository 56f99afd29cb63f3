import java.lang.management.ManagementFactory;

/** What the dearest calls of a run make: all calls of one run live in one room (LANGUAGE.md, rule 12). */
public final class RoomTest {
  /** Some 7.3 million fields and elements are allowed for all runs; one run of 512 calls stays far below. */
  private static final long MOST_BYTES_A_RUN = 400_000;

  private interface Call { void on(FiddleBuzz x, int i); }

  private static int wrong;

  private static long made() {
    return ((com.sun.management.ThreadMXBean) ManagementFactory.getThreadMXBean()).getCurrentThreadAllocatedBytes();
  }

  private static FiddleBuzz full() {
    FiddleBuzz x = Bench.with("p10 1 1;p11 1 1j0 9;p12 1 1j1 9;p13 1 1j2 9;p14 1 1j3 9;p15 1 1j4 9;p16 1 1j5 9;", "p17 1 1j6 9;p18 1 1j7 9;p19 1 1j8 9;",
        "t59 1 0 1;t29 1 0 1;t49 1 0 1;t19 1 0 1;", "t69 1 0 1;t79 1 0 1;t09 1 0 1;");
    Bench.fill(x, 1, 1, 10, 20, 30, 40, 50, 60);
    Bench.fill(x, 2, 1, 10, 20, 30, 40, 50, 60, 70, 80, 90, 100);
    x.keep(3, 1, 2);
    Bench.fill(x, 4, "d0;d0;d0;d0;d0;d0;d0;d0;d0;d0;d0;d0;d0;d0;d0;d0;d0;d0;d0;d0;d0;d0;d0;d0;d0;d0;d0;d0;d0;d0;d0;d0;d0;");
    Bench.fill(x, 5, "p10 1 1;p10 1 1;p10 1 1;p10 1 1;p10 1 1;p10 1 1;p10 1 1;p10 1 1;p10 1 1;p10 1 1;p10 1 1;");
    return x;
  }

  private static void run(String name, FiddleBuzz x, Call call) {
    call.on(x, 0);
    long before = made();
    for (int i = 0; i < 512; i++) call.on(x, i);
    long bytes = made() - before;
    if (bytes <= MOST_BYTES_A_RUN) return;
    wrong++;
    System.out.println("512 times " + name + " made " + bytes + " bytes");
  }

  public static void main(String[] args) {
    run("new", full(), (x, i) -> { if (i % 8 == 0) new FiddleBuzz(); });
    run("instrument", full(), (x, i) -> x.instrument(4));
    run("instrument with a FAULT", new FiddleBuzz(), (x, i) -> { if (i == 0) Bench.fill(x, 0, "p10 1 1;p10 1 1;p10 1 1;p10 1 1;p9 1 1;"); x.instrument(0); });
    run("row", full(), (x, i) -> x.row(7, 2, 100));
    run("ask and forget", full(), (x, i) -> { if (x.ask(10, 5, true) < 0) x.forget(); });
    run("image and restore", full(), (x, i) -> { x.image(); x.restore(); });
    run("bands", full(), (x, i) -> x.bands(0, 50, -1, 0));
    run("loudest, softest", full(), (x, i) -> { x.loudest(9, 50); x.softest(0, 10); });
    run("odds, which, next", full(), (x, i) -> { x.odds(0, true, 0); x.which(); x.next(50); });
    run("fewest, friday, rattles", full(), (x, i) -> { x.fewest(1, 50); x.friday(2, 50, 0); x.rattles(2, 50, 1); });
    run("length, seamOrCrack, lives", full(), (x, i) -> { x.length(0, 1); x.seamOrCrack(0, 1, 10); x.lives(1, 1, 1); });
    run("wolf, beats, ends, harm, hair", full(), (x, i) -> { x.wolf(-1); x.beats(8); x.ends(0); x.harm(9); x.hair(9, 10, 50, 9); });
    run("keep, price, toss", full(), (x, i) -> { x.keep(6, 1, 2); x.price(3); x.toss(3); });
    System.out.println(wrong == 0 ? "all calls keep to the room" : wrong + " calls don't");
    if (wrong != 0) System.exit(1);
  }
}
