/** The edges of terms V and VI and of promises 34 to 47: pulls that are tried, gates, words, cuts, what is left out. */
public final class PullEdgesTest {
  /** The one thread tears in year 0. */
  private static final String ONE = "cloth years 2 law 0 odds 5;claim;thread 0 to hem holds 10;quarrel 0 by 11 at 0;";
  /** By law 1 claim 1 leans on claim 0 by thread 1, which tears thread 0; in the end claim 1 alone hangs. */
  private static final String HARM = "cloth years 1 law 1 odds 5;claim;claim;thread 0 to hem holds 5;"
      + "thread 1 to 0 holds 10;thread 1 to hem holds 10;quarrel 1 by 8 at 0;";
  /** The same again with claims 2 and 3. */
  private static final String TWICE = HARM + "claim;claim;thread 2 to hem holds 5;thread 3 to 2 holds 10;"
      + "thread 3 to hem holds 10;quarrel 3 by 8 at 0;";
  private static final String BARE = "cloth years 2 law 0 odds 0;";

  public static void main(String[] args) {
    gates();
    words();
    cuts();
    tries();
    would();
    lets();
    gate();
    soft();
    bursts();
    word();
    darn();
    mend();
    cut();
    keys();
    blame();
    dear();
    worse();
    Bench.finish("PullEdgesTest", 34, 47);
  }

  // ---- terms V and VI

  private static void gates() {
    Bench.says("V", "GATE: the least pull (1 .. 200) by a QUARREL at a CLAIM");
    // 199 are shared 50, 50, 50, 49; 200 tear the last one
    Bench.of(Bench.law(0, 50, 50, 50, 49)).due("gate(0, 0)", 200).due("tries(0, 199, 0)", 0);
    Bench.of(Bench.law(0, 50, 50, 50, 50)).due("gate(0, 0)", -1).due("tries(0, 200, 0)", 0);
    Bench.of(Bench.law(0, 1)).due("gate(0, 0)", 2);
    Bench.of(Bench.law(1, 60, 60)).due("gate(0, 0)", 61);
    Bench.says("V", "as the cloth is in a YEAR (ahead of words of it; nothing stays of it)");
    Bench x = Bench.of(ONE);
    x.due("sews(0, 20, 0)", 1).due("gate(0, 0)", 11).due("gate(0, 1)", 29).due("gate(0, 2)", 29);
    x.due("strength(0, 0)", 10).due("strength(0, 1)", 28).due("hung(2)", 1).due("bears(0)", 11).due("pulls(0)", 1);
    Bench.says("V", "by which a THREAD is TORN (worn out, too; in any of its pulls), or it goes THROUGH (a HOLE: 1)");
    Bench.of(Bench.law(0, 60, 1)).due("gate(0, 0)", 4).due("lets(0, 4, 0)", 0).due("would(0, 4, 0, 0)", 4);
    // a hole, and one that leads to a hole; nothing is torn
    Bench y = Bench.of("cloth years 1 law 0 odds 0;claim;claim;thread 1 to 0 holds 9;");
    y.due("gate(0, 0)", 1).due("gate(1, 0)", 1).due("tries(1, 1, 0)", 0).due("lets(1, 1, 0)", 1);
    // lost by the second share alone
    Bench.of("cloth years 1 law 0 odds 0;claim;claim;thread 1 to hem holds 9;thread 1 to 0 holds 9;")
        .due("gate(1, 0)", 2).due("bursts(1, 0)", 2);
  }

  private static void words() {
    Bench.says("V", "WORD: the least by which a THREAD must hold more than told (0 .. 60, above 99 together, too; "
        + "0: it need not)");
    Bench x = Bench.of("cloth years 1 law 0 odds 0;claim;thread 0 to hem holds 30;quarrel 0 by 90 at 0;");
    x.due("word(0, 0)", 60).due("rate(0, 29)", 30).due("word(0, 0)", -1).due("rate(0, 60)", 29).due("word(0, 0)", 30);
    Bench.of(Bench.law(0, 60) + "quarrel 0 by 60 at 0;").due("word(0, 0)", 0);
    Bench.of(Bench.law(0, 59) + "quarrel 0 by 60 at 0;").due("word(0, 0)", 1);
    // 60 and 60 are 120, less 18 102; less 18 84: holds 84 at last
    Bench y = Bench.of("cloth years 3 law 0 odds 0;claim;thread 0 to hem holds 60;quarrel 0 by 90 at 0;"
        + "quarrel 0 by 90 at 1;quarrel 0 by 84 at 2;");
    y.due("word(0, 0)", 60).due("rate(0, 59)", 60).due("word(0, 0)", -1);
  }

  private static void cuts() {
    Bench.says("VI", "CUT: the fewest THREADS, not TORN, that, TORN, leave a CLAIM not HUNG.");
    // three threads from claim 2, but all over one
    Bench x = Bench.of("cloth years 1 law 0 odds 0;claim;claim;claim;thread 0 to hem holds 9;thread 1 to 0 holds 9;"
        + "thread 1 to 0 holds 9;thread 2 to 1 holds 9;thread 2 to 1 holds 9;thread 2 to 1 holds 9;quarrel 1 by 1 at 0;");
    x.due("cut(2, 0)", 1).due("cut(1, 0)", 1).due("cut(0, 0)", 1);
    // one found first bars the other, unless it is turned back
    Bench y = Bench.of("cloth years 1 law 0 odds 0;claim;claim;claim;claim;thread 3 to 2 holds 9;thread 2 to 1 holds 9;"
        + "thread 1 to hem holds 9;thread 3 to 1 holds 9;thread 2 to hem holds 9;thread 1 to 0 holds 9;");
    y.due("cut(3, 0)", 2).due("cut(2, 0)", 2).due("cut(1, 0)", 1).due("cut(0, 0)", 0);
    // fewest in the middle, above and below
    String ends = "cloth years 1 law 0 odds 0;claim;claim;claim;thread 0 to hem holds 9;thread 0 to hem holds 9;";
    Bench.of(ends + "thread 1 to 0 holds 9;thread 2 to 1 holds 9;thread 2 to 1 holds 9;").due("cut(2, 0)", 1)
        .due("cut(1, 0)", 1).due("cut(0, 0)", 2);
    Bench.of(ends + "thread 2 to hem holds 9;thread 2 to 0 holds 9;").due("cut(2, 0)", 2);
    // four from claim 3 bar the rest, by way of threads that must be turned back
    Bench.of(ends.substring(0, 27) + "claim;".repeat(4) + "thread 3 to 2 holds 9;thread 2 to 1 holds 9;"
        + "thread 2 to 0 holds 9;thread 0 to hem holds 9;thread 1 to hem holds 9;thread 3 to 0 holds 9;"
        + "thread 3 to 0 holds 9;thread 0 to hem holds 9;thread 2 to hem holds 9;thread 3 to hem holds 9;")
        .due("cut(3, 0)", 4).due("cut(2, 0)", 3).due("cut(1, 0)", 1).due("cut(0, 0)", 2);
    // torn ones are not cut: a word let in later does not count
    Bench z = Bench.of(Bench.law(0, 9, 1) + "quarrel 0 by 4 at 0;");
    z.due("cut(0, 0)", 2).due("cut(0, 1)", 1).due("cut(0, 2)", 1).due("sews(1, 1, 1)", 1).due("cut(0, 1)", 1);
    z.due("cut(0, 2)", 2);
  }

  // ---- promises 34 to 39

  private static void tries() {
    Bench.says(34, "How many THREADS a QUARREL of n (1 .. 200) at a CLAIM would tear (as rips()), as the cloth is in a YEAR.");
    Bench x = Bench.of(ONE);
    x.due("tries(0, 1, 0)", 0).due("tries(0, 10, 0)", 0).due("tries(0, 11, 0)", 1).due("tries(0, 200, 0)", 1);
    x.due("tries(0, 200, 1)", 0).due("tries(0, 200, 2)", 0);
    Bench.of("cloth years 1 law 1 odds 0;claim;" + "thread 0 to hem holds 60;".repeat(16)).due("tries(0, 60, 0)", 0)
        .due("tries(0, 61, 0)", 16).due("tries(0, 200, 1)", 16);
    Bench.of(Bench.law(0, 4, 5)).due("tries(0, 10, 0)", 2);
    Bench.says(34, "-2: there are none such.");
    x.refused("tries(0, 0, 0)", -2).refused("tries(0, 201, 0)", -2).refused("tries(0, -1, 0)", -2);
    x.refused("tries(0, MIN, 0)", -2).refused("tries(0, MAX, 0)", -2);
    x.beyond("tries(%, 1, 0)", -2, 1).beyond("tries(0, 1, %)", -2, 3).unmoved();
    Bench.of(BARE).due("tries(0, 1, 0)", -2);
    new Bench().due("tries(0, 1, 0)", -2);
  }

  private static void would() {
    Bench.says(35, "SHARE that a THREAD would have in its last pull.");
    Bench x = Bench.of(ONE);
    x.due("would(0, 1, 0, 0)", 1).due("would(0, 10, 0, 0)", 10).due("would(0, 11, 0, 0)", 0);
    x.due("would(0, 1, 1, 0)", 0).due("would(0, 1, 2, 0)", 0);
    Bench.of(Bench.law(0, 4, 60)).due("would(0, 10, 0, 0)", 0).due("would(0, 10, 0, 1)", 10).due("would(0, 9, 0, 0)", 0);
    Bench.of("cloth years 1 law 0 odds 0;claim;" + "thread 0 to hem holds 60;".repeat(16))
        .due("would(0, 200, 0, 0)", 13).due("would(0, 200, 0, 7)", 13).due("would(0, 200, 0, 8)", 12)
        .due("would(0, 200, 1, 15)", 12);
    Bench.says(35, "-2 likewise.");
    x.refused("would(0, 0, 0, 0)", -2).refused("would(0, 201, 0, 0)", -2).refused("would(0, -1, 0, 0)", -2);
    x.refused("would(0, MIN, 0, 0)", -2).refused("would(0, MAX, 0, 0)", -2);
    x.beyond("would(%, 1, 0, 0)", -2, 1).beyond("would(0, 1, %, 0)", -2, 3).beyond("would(0, 1, 0, %)", -2, 1);
    x.unmoved();
    Bench.of("cloth years 1 law 0 odds 0;claim;").due("would(0, 1, 0, 0)", -2);
    new Bench().due("would(0, 1, 0, 0)", -2);
  }

  private static void lets() {
    Bench.says(36, "What of it would be lost (THROUGH).");
    Bench x = Bench.of(ONE);
    x.due("lets(0, 1, 0)", 0).due("lets(0, 10, 0)", 0).due("lets(0, 11, 0)", 11).due("lets(0, 200, 0)", 200);
    x.due("lets(0, 1, 1)", 1).due("lets(0, 200, 2)", 200);
    Bench.of("cloth years 1 law 0 odds 0;claim;claim;thread 1 to hem holds 9;thread 1 to 0 holds 9;")
        .due("lets(1, 1, 0)", 0).due("lets(1, 2, 0)", 1).due("lets(1, 9, 0)", 4);
    Bench.says(36, "-2: there are none such.");
    x.refused("lets(0, 0, 0)", -2).refused("lets(0, 201, 0)", -2).refused("lets(0, -1, 0)", -2);
    x.refused("lets(0, MIN, 0)", -2).refused("lets(0, MAX, 0)", -2);
    x.beyond("lets(%, 1, 0)", -2, 1).beyond("lets(0, 1, %)", -2, 3).unmoved();
    Bench.of("cloth years 1 law 0 odds 0;claim;").due("lets(0, 1, 0)", 1);
    Bench.of(BARE).due("lets(0, 1, 0)", -2);
    new Bench().due("lets(0, 1, 0)", -2);
  }

  private static void gate() {
    Bench.says(37, "GATE (V) of a CLAIM in a YEAR.");
    Bench x = Bench.of(ONE);
    x.due("gate(0, 0)", 11).due("gate(0, 1)", 1).due("gate(0, 2)", 1);
    Bench.of(HARM).due("gate(0, 0)", 6).due("gate(1, 0)", 6).due("gate(0, 1)", 1).due("gate(1, 1)", 11);
    Bench.says(37, "NONE: by none; -2 likewise.");
    Bench.of(Bench.law(0, 50, 50, 50, 50)).due("gate(0, 0)", -1).due("gate(0, 2)", -1);
    x.beyond("gate(%, 0)", -2, 1).beyond("gate(0, %)", -2, 3).unmoved();
    Bench.of(BARE).due("gate(0, 0)", -2);
    new Bench().due("gate(0, 0)", -2);
  }

  private static void soft() {
    Bench.says(38, "The CLAIM with the least GATE in a YEAR, the first of several.");
    String three = "cloth years 2 law 0 odds 0;claim;claim;claim;thread 0 to hem holds 5;thread 1 to hem holds 4;"
        + "thread 2 to hem holds 4;quarrel 2 by 5 at 0;";
    // 6, 5, 5; then 6, 5, 1
    Bench x = Bench.of(three);
    x.due("soft(0)", 1).due("soft(1)", 2).due("soft(2)", 2);
    Bench.of("cloth years 1 law 0 odds 0;" + "claim;".repeat(8)).due("soft(0)", 0);
    StringBuilder none = new StringBuilder("cloth years 1 law 0 odds 0;claim;claim;");
    none.append("thread 0 to hem holds 50;".repeat(4)).append("thread 1 to hem holds 50;".repeat(3));
    Bench.of(none + "thread 1 to hem holds 49;").due("soft(0)", 1).due("gate(1, 0)", 200);
    Bench.says(38, "NONE: none has one; -2: there is none such, no CLOTH.");
    Bench.of(none + "thread 1 to hem holds 50;").due("soft(0)", -1).due("soft(1)", -1).due("soft(2)", -2);
    Bench.of(BARE).due("soft(0)", -1).due("soft(2)", -1).due("soft(3)", -2);
    x.beyond("soft(%)", -2, 3).unmoved();
    new Bench().due("soft(0)", -2);
  }

  private static void bursts() {
    Bench.says(39, "The least pull (1 .. 200) by which a QUARREL at a CLAIM goes THROUGH, as the cloth is in a YEAR.");
    Bench x = Bench.of(ONE);
    x.due("bursts(0, 0)", 11).due("bursts(0, 1)", 1).due("bursts(0, 2)", 1);
    Bench.of(Bench.law(0, 60, 1)).due("bursts(0, 0)", 61);
    Bench.of(Bench.law(0, 50, 50, 50, 49)).due("bursts(0, 0)", 200);
    Bench.of("cloth years 1 law 0 odds 0;claim;claim;thread 1 to 0 holds 9;").due("bursts(0, 0)", 1).due("bursts(1, 0)", 1);
    // torn by 7 and so not lost; by 51 all is
    Bench.of("cloth years 1 law 1 odds 0;claim;claim;claim;thread 2 to hem holds 6;thread 1 to hem holds 50;"
        + "thread 2 to 1 holds 5;").due("bursts(2, 0)", 7).due("bursts(1, 0)", 51);
    Bench.says(39, "NONE: by none; -2: there are none such.");
    Bench.of(Bench.law(0, 50, 50, 50, 50)).due("bursts(0, 0)", -1);
    // a thread tears, but it never goes through
    Bench.of(Bench.law(0, 1, 50, 50, 50, 50)).due("gate(0, 0)", 6).due("bursts(0, 0)", -1);
    x.beyond("bursts(%, 0)", -2, 1).beyond("bursts(0, %)", -2, 3).unmoved();
    Bench.of(BARE).due("bursts(0, 0)", -2);
    new Bench().due("bursts(0, 0)", -2);
  }

  // ---- promises 40 to 42

  private static void word() {
    Bench.says(40, "WORD (V) of a THREAD by which a CLAIM is HUNG in the last YEAR.");
    Bench x = Bench.of(HARM);
    x.due("word(0, 0)", 3).due("word(2, 0)", 1).due("word(0, 1)", 0).due("word(1, 1)", 0).due("word(2, 1)", 0);
    // of the last year alone: it falls ahead of that, too
    Bench y = Bench.of(ONE);
    y.due("word(0, 0)", 1).due("sews(0, 1, 1)", 1).due("falls(0)", 1).due("word(0, 0)", 0);
    // of all sixteen, up to the last word; one asked of a thread is not told of the next
    Bench all = Bench.of("cloth years 1 law 1 odds 0;claim;claim;" + "thread 0 to hem holds 1;".repeat(14)
        + "thread 1 to hem holds 30;thread 0 to hem holds 30;quarrel 0 by 90 at 0;");
    all.due("word(15, 0)", 60).due("word(14, 0)", -1).due("word(13, 0)", -1).due("word(0, 0)", -1).due("darn(0)", 15);
    Bench next = Bench.of("cloth years 1 law 0 odds 0;claim;claim;thread 0 to hem holds 30;thread 1 to hem holds 9;"
        + "quarrel 0 by 90 at 0;");
    next.due("word(0, 0)", 60).due("word(1, 0)", -1).due("mend(0)", 60).due("mend(1)", -1);
    Bench.says(40, "NONE: by none; -2: there are none such.");
    x.due("word(1, 0)", -1);
    Bench.of(Bench.law(0, 9) + "claim;").due("word(0, 1)", -1).due("word(0, 0)", 0);
    x.beyond("word(%, 0)", -2, 3).beyond("word(0, %)", -2, 2).unmoved();
    Bench.of("cloth years 1 law 0 odds 0;claim;").due("word(0, 0)", -2);
    new Bench().due("word(0, 0)", -2);
  }

  private static void darn() {
    Bench.says(41, "The THREAD with the least WORD for a CLAIM, the first of several.");
    Bench x = Bench.of(HARM);
    x.due("darn(0)", 2).due("darn(1)", 0);
    // the other one tears by a half, and the one has all: both threads by 7, then by 9 and 8
    Bench same = Bench.of(Bench.law(0, 5, 5) + "quarrel 0 by 12 at 0;");
    same.due("word(0, 0)", 7).due("word(1, 0)", 7).due("darn(0)", 0);
    Bench less = Bench.of(Bench.law(0, 5, 6) + "quarrel 0 by 14 at 0;");
    less.due("word(0, 0)", 9).due("word(1, 0)", 8).due("darn(0)", 1);
    Bench sixty = Bench.of("cloth years 1 law 0 odds 0;claim;thread 0 to hem holds 30;quarrel 0 by 90 at 0;");
    sixty.due("darn(0)", 0).due("rate(0, 29)", 30);
    // thread 0 need not hold more, though by 1 more it would do harm
    Bench need = Bench.of("cloth years 1 law 1 odds 0;claim;claim;thread 1 to 0 holds 9;thread 1 to hem holds 10;"
        + "thread 0 to hem holds 5;quarrel 1 by 8 at 0;");
    need.due("darn(0)", 0).due("word(0, 0)", 0).due("rate(0, 10)", 9).due("hung(1)", 2).due("darn(0)", 1);
    Bench.says(41, "NONE: none has one; -2: there is none such.");
    sixty.due("darn(0)", -1);
    Bench.of(Bench.law(0, 9) + "claim;").due("darn(1)", -1).due("darn(0)", 0);
    Bench.of("cloth years 1 law 0 odds 0;claim;").due("darn(0)", -1);
    x.beyond("darn(%)", -2, 2).unmoved();
    Bench.of(BARE).due("darn(0)", -2);
    new Bench().due("darn(0)", -2);
  }

  private static void mend() {
    Bench.says(42, "WORD of a THREAD by which all CLAIMS are HUNG in the last YEAR.");
    Bench x = Bench.of(HARM);
    x.due("mend(0)", 3).due("mend(2)", 1);
    Bench.of(Bench.law(0, 9)).due("mend(0)", 0);
    Bench sixty = Bench.of("cloth years 1 law 0 odds 0;claim;thread 0 to hem holds 30;quarrel 0 by 90 at 0;");
    sixty.due("mend(0)", 60).due("rate(0, 29)", 30);
    Bench.says(42, "NONE: by none; -2: there is none such.");
    sixty.due("mend(0)", -1);
    // each claim by a word to its own thread, never all
    Bench two = Bench.of("cloth years 1 law 0 odds 0;claim;claim;thread 0 to hem holds 9;thread 1 to hem holds 9;"
        + "quarrel 0 by 10 at 0;quarrel 1 by 10 at 0;");
    two.due("word(0, 0)", 1).due("word(1, 1)", 1).due("mend(0)", -1).due("mend(1)", -1);
    x.due("mend(1)", -1).beyond("mend(%)", -2, 3).unmoved();
    Bench.of("cloth years 1 law 0 odds 0;claim;").due("mend(0)", -2);
    new Bench().due("mend(0)", -2);
  }

  // ---- promises 43 to 47

  private static void cut() {
    Bench.says(43, "CUT (VI) of a CLAIM in a YEAR (0: it is not HUNG): how many.");
    Bench x = Bench.of(ONE);
    x.due("cut(0, 0)", 1).due("cut(0, 1)", 0).due("cut(0, 2)", 0);
    Bench.of("cloth years 1 law 0 odds 0;claim;" + "thread 0 to hem holds 1;".repeat(16)).due("cut(0, 0)", 16)
        .due("cut(0, 1)", 16);
    Bench.of("cloth years 1 law 0 odds 0;claim;claim;thread 1 to 0 holds 9;").due("cut(1, 0)", 0).due("cut(0, 0)", 0);
    Bench.says(43, "-2: there are none such.");
    x.beyond("cut(%, 0)", -2, 1).beyond("cut(0, %)", -2, 3).unmoved();
    Bench.of(BARE).due("cut(0, 0)", -2);
    new Bench().due("cut(0, 0)", -2);
  }

  private static void keys() {
    Bench.says(44, "THREADS that alone, TORN, leave a CLAIM not HUNG that is HUNG in a YEAR, as bits.");
    Bench x = Bench.of("cloth years 2 law 0 odds 0;claim;claim;claim;thread 0 to hem holds 9;thread 1 to 0 holds 9;"
        + "thread 2 to 1 holds 9;thread 0 to hem holds 3;quarrel 0 by 8 at 0;quarrel 1 by 10 at 1;");
    x.due("keys(2, 0)", 6).due("keys(1, 0)", 2).due("keys(0, 0)", 0);
    x.due("keys(2, 1)", 7).due("keys(1, 1)", 3).due("keys(0, 1)", 1);
    // not hung: none, whatever is torn
    x.due("keys(2, 2)", 0).due("keys(1, 2)", 0);
    Bench.of("cloth years 1 law 0 odds 0;claim;").due("keys(0, 0)", 0);
    Bench.of(Bench.law(0, 9)).due("keys(0, 0)", 1);
    Bench.of(Bench.law(0, 9, 9)).due("keys(0, 0)", 0);
    StringBuilder last = new StringBuilder("cloth years 1 law 0 odds 0;claim;claim;");
    last.append("thread 0 to hem holds 9;".repeat(15)).append("thread 1 to hem holds 9;");
    Bench.of(last.toString()).due("keys(1, 0)", 32768).due("keys(0, 0)", 0);
    Bench.says(44, "-2 likewise.");
    x.beyond("keys(%, 0)", -2, 3).beyond("keys(0, %)", -2, 3).unmoved();
    Bench.of(BARE).due("keys(0, 0)", -2);
    new Bench().due("keys(0, 0)", -2);
  }

  private static void blame() {
    Bench.says(45, "The QUARREL told without which most CLAIMS are HUNG in the last YEAR, if more than now, the first of "
        + "several.");
    Bench.of(ONE).due("blame()", 0);
    String two = "cloth years 2 law 0 odds 0;claim;claim;thread 0 to hem holds 9;thread 1 to hem holds 9;"
        + "quarrel 0 by 10 at 1;quarrel 1 by 10 at 0;";
    Bench.of(two).due("blame()", 0);
    // by the second one two claims fall
    Bench.of(two + "claim;thread 2 to 1 holds 9;").due("blame()", 1);
    Bench.of("cloth years 1 law 0 odds 0;claim;thread 0 to hem holds 9;" + "quarrel 0 by 1 at 0;".repeat(9)
        + "quarrel 0 by 10 at 0;").due("blame()", 9);
    Bench.says(45, "NONE: none; -2: there is no CLOTH.");
    // each of two tears it: without one the other does
    Bench.of("cloth years 1 law 0 odds 0;claim;thread 0 to hem holds 9;quarrel 0 by 10 at 0;quarrel 0 by 10 at 0;")
        .due("blame()", -1);
    Bench.of(Bench.law(0, 9) + "quarrel 0 by 9 at 0;quarrel 0 by 90 at 2;").due("blame()", -1);
    // torn by a quarrel of an act, which was not told
    Bench.of(Bench.law(0, 9) + "quarrel 0 by 4 at 0;").due("quarrels(0, 10, 1)", 0).due("blame()", -1);
    Bench.of(Bench.law(0, 9)).due("blame()", -1);
    Bench.of(BARE).due("blame()", -1);
    new Bench().due("blame()", -2);
  }

  private static void dear() {
    Bench.says(46, "The THREAD without which (TORN from YEAR 0 on) fewest CLAIMS are HUNG in the last YEAR, if fewer than "
        + "now, the first of several.");
    String two = "cloth years 1 law 0 odds 0;claim;claim;thread 0 to hem holds 9;thread 1 to hem holds 9;";
    Bench.of(two).due("dear()", 0);
    Bench.of(two + "claim;thread 2 to 1 holds 9;").due("dear()", 1);
    Bench.of(HARM).due("dear()", 2);
    // a word let in to it does nothing
    Bench.of(Bench.law(0, 9)).due("sews(0, 5, 1)", 1).due("dear()", 0);
    StringBuilder last = new StringBuilder("cloth years 1 law 0 odds 0;claim;claim;");
    last.append("thread 0 to hem holds 9;".repeat(15)).append("thread 1 to hem holds 9;");
    Bench.of(last.toString()).due("dear()", 15);
    Bench.says(46, "NONE: none; -2 likewise.");
    Bench.of(Bench.law(0, 9, 9)).due("dear()", -1);
    Bench.of(ONE).due("dear()", -1);
    Bench.of("cloth years 1 law 0 odds 0;claim;").due("dear()", -1);
    Bench.of(BARE).due("dear()", -1);
    new Bench().due("dear()", -2);
  }

  private static void worse() {
    Bench.says(47, "The THREAD without which most are, if more than now, the first of several.");
    Bench.of(HARM).due("worse()", 1);
    Bench.of(TWICE).due("worse()", 1);
    Bench.of(TWICE + "claim;thread 4 to 2 holds 9;").due("worse()", 4);
    // the very first, and the last of sixteen
    Bench.of("cloth years 1 law 1 odds 5;claim;claim;thread 1 to 0 holds 10;thread 0 to hem holds 5;"
        + "thread 1 to hem holds 10;quarrel 1 by 8 at 0;").due("worse()", 0);
    Bench.of("cloth years 1 law 1 odds 5;claim;claim;" + "thread 1 to hem holds 9;".repeat(14)
        + "thread 0 to hem holds 5;thread 1 to 0 holds 10;quarrel 1 by 8 at 0;").due("worse()", 15);
    Bench.says(47, "NONE, -2 likewise.");
    Bench.of(Bench.law(0, 9, 9)).due("worse()", -1);
    Bench.of(ONE).due("worse()", -1);
    Bench.of(BARE).due("worse()", -1);
    new Bench().due("worse()", -2);
  }
}
