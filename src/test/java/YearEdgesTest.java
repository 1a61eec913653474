/** The edges of terms II to IV and of promises 9 to 33: sharing, tearing, wearing, year by year, quarrel by quarrel. */
public final class YearEdgesTest {
  /** Strengths 10 5 4, 10 5 4, 10 0 0, 10 0 0: in year 1 both threads of claim 1 tear; quarrel 2 does not come. */
  private static final String TWO = "cloth years 3 law 0 odds 5;claim;claim;thread 0 to hem holds 10;"
      + "thread 1 to 0 holds 5;thread 1 to hem holds 4;quarrel 1 by 8 at 0;quarrel 1 by 12 at 1;quarrel 0 by 3 at 3;";
  /** Just a cloth: no claims, no threads, no quarrels. */
  private static final String BARE = "cloth years 2 law 0 odds 0;";
  /** Torn in year 0, let in to in year 1, torn in year 2. */
  private static final String TWICE = "cloth years 3 law 0 odds 0;claim;thread 0 to hem holds 10;quarrel 0 by 11 at 0;"
      + "quarrel 0 by 8 at 2;";

  public static void main(String[] args) {
    strengthAndLoad();
    lawsOfSharing();
    lost();
    tearing();
    wearing();
    words();
    quarrelsInOrder();
    holesAndHung();
    strength();
    torn();
    tears();
    holes();
    hung();
    sums();
    strongest();
    weakest();
    loses();
    bare();
    frail();
    stuff();
    steps();
    has();
    pulls();
    rips();
    through();
    hem();
    loud();
    worst();
    bears();
    worn();
    idle();
    Bench.finish("YearEdgesTest", 9, 33);
  }

  private static void shares(Bench x, int n, int... due) {
    for (int t = 0; t < due.length; t++) x.due("would(0, " + n + ", 0, " + t + ")", due[t]);
  }

  // ---- term II

  private static void strengthAndLoad() {
    Bench.says("II", "A THREAD has a STRENGTH, at first as told; at 0 it is TORN.");
    Bench x = Bench.of(Bench.law(0, 1, 60) + "quarrel 0 by 4 at 0;");
    x.due("strength(0, 0)", 1).due("strength(1, 0)", 60).due("torn(0)", 0).due("strength(0, 1)", 0).due("torn(1)", 1);
    Bench.of(Bench.law(0, 1) + "quarrel 0 by 1 at 0;").due("strength(0, 1)", 1).due("torn(1)", 0);
    Bench.says("II", "THREADS of a CLAIM: those told from it.");
    // what leads to claim 0 has none of its load
    Bench y = Bench.of("cloth years 1 law 0 odds 0;claim;claim;thread 1 to 0 holds 9;thread 0 to hem holds 9;");
    y.due("threads(0)", 2).due("threads(1)", 1).due("would(0, 4, 0, 0)", 0).due("would(0, 4, 0, 1)", 4);
    Bench.says("II", "that has the LOAD told, the others none");
    Bench z = Bench.of("cloth years 1 law 0 odds 0;claim;claim;claim;thread 0 to hem holds 9;thread 1 to 0 holds 9;"
        + "thread 2 to 1 holds 9;");
    for (int c = 0; c < 3; c++) {
      for (int t = 0; t < 3; t++) z.due("would(" + c + ", 7, 0, " + t + ")", t <= c ? 7 : 0);
    }
    Bench.says("II", "From the greatest number down each CLAIM with a LOAD shares it, whole numbers");
    StringBuilder down = new StringBuilder("cloth years 1 law 0 odds 0;claim;" + "thread 0 to hem holds 60;".repeat(2));
    for (int c = 1; c < 8; c++) {
      down.append("claim;thread ").append(c).append(" to ").append(c - 1).append(" holds 60;");
      down.append("thread ").append(c).append(" to ").append(Math.max(0, c - 2)).append(" holds 60;");
    }
    // each claim leads to the next two: loads of claims 7 to 0 are 9, 5, 7, 6, 6, 6, 6, 9
    int[] shares = {5, 4, 3, 3, 3, 3, 3, 3, 3, 3, 4, 3, 3, 2, 5, 4};
    Bench d = Bench.of(down.toString());
    for (int t = 0; t < 16; t++) d.due("would(7, 9, 0, " + t + ")", shares[t]);
    Bench.says("II", "it goes on to the LOAD of the CLAIM to which it leads (or into the HEM)");
    // 6 over claim 1 and 5 at once come together at claim 0 ahead of its sharing
    Bench w = Bench.of("cloth years 1 law 0 odds 0;claim;claim;claim;thread 2 to 1 holds 50;thread 2 to 0 holds 50;"
        + "thread 1 to 0 holds 50;thread 0 to hem holds 50;thread 0 to hem holds 50;quarrel 2 by 11 at 0;");
    int[] due = {6, 5, 6, 6, 5};
    for (int t = 0; t < 5; t++) w.due("has(0, " + t + ")", due[t]);
    w.due("hem(0)", 11).due("through(0)", 0);
  }

  private static void lawsOfSharing() {
    Bench.says("II", "0: as equal as can be, the first ones 1 more");
    Bench x = Bench.of(Bench.law(0, 30, 60, 45));
    shares(x, 1, 1, 0, 0);
    shares(x, 2, 1, 1, 0);
    shares(x, 3, 1, 1, 1);
    shares(x, 4, 2, 1, 1);
    shares(x, 90, 30, 30, 30);
    Bench.says("II", "among its THREADS that are not TORN");
    shares(Bench.of(Bench.law(0, 30, 1, 30)), 5, 3, 0, 2);
    shares(Bench.of(Bench.law(1, 1, 1, 1)), 1, 1, 0, 0);
    shares(Bench.of(Bench.law(2, 30, 1, 40)), 71, 30, 1, 40);
    shares(Bench.of(Bench.law(3, 30, 4, 20)), 9, 5, 0, 4);
    Bench.says("II", "1: all to the strongest, the first of several");
    shares(Bench.of(Bench.law(1, 10, 20, 20)), 20, 0, 20, 0);
    shares(Bench.of(Bench.law(1, 20, 20, 19)), 1, 1, 0, 0);
    shares(Bench.of(Bench.law(1, 19, 20, 21)), 21, 0, 0, 21);
    Bench.says("II", "2: each its STRENGTH times LOAD by STRENGTHS of all of them together, cut");
    shares(Bench.of(Bench.law(2, 10, 20, 20)), 50, 10, 20, 20);
    shares(Bench.of(Bench.law(2, 10, 20, 20)), 5, 1, 2, 2);
    shares(Bench.of(Bench.law(2, 60, 60, 60, 20)), 200, 60, 60, 60, 20);
    Bench.says("II", "what is left over to the strongest, the first of several");
    shares(Bench.of(Bench.law(2, 10, 20, 20)), 1, 0, 1, 0);
    shares(Bench.of(Bench.law(2, 10, 20, 20)), 8, 1, 4, 3);
    shares(Bench.of(Bench.law(2, 10, 10, 11)), 2, 0, 0, 2);
    Bench.says("II", "3: a half (with 1 more, if LOAD is odd) to the strongest, the rest to the strongest of the others "
        + "(the first of several each)");
    Bench y = Bench.of(Bench.law(3, 10, 30, 10, 30));
    shares(y, 1, 0, 1, 0, 0);
    shares(y, 2, 0, 1, 0, 1);
    shares(y, 3, 0, 2, 0, 1);
    shares(Bench.of(Bench.law(3, 10, 10, 30)), 7, 3, 0, 4);
    shares(Bench.of(Bench.law(3, 10, 11, 30)), 7, 0, 3, 4);
    shares(Bench.of(Bench.law(3, 30, 10, 11)), 7, 4, 0, 3);
    shares(Bench.of(Bench.law(3, 5, 10, 7)), 7, 0, 4, 3);
    shares(Bench.of(Bench.law(3, 10, 30, 5)), 7, 3, 4, 0);
    shares(Bench.of(Bench.law(3, 30, 10, 10)), 7, 4, 3, 0);
    shares(Bench.of(Bench.law(3, 10, 10, 10)), 7, 4, 3, 0);
    Bench.says("II", "one alone has all");
    shares(Bench.of(Bench.law(3, 10)), 9, 9);
    shares(Bench.of(Bench.law(3, 10)), 10, 10);
    shares(Bench.of(Bench.law(3, 1, 30)), 10, 0, 10);
    shares(Bench.of(Bench.law(0, 10)), 9, 9);
    shares(Bench.of(Bench.law(1, 10)), 9, 9);
    shares(Bench.of(Bench.law(2, 10)), 9, 9);
  }

  private static void lost() {
    Bench.says("II", "A CLAIM with a LOAD and without such THREADS: the LOAD is lost there (what went elsewhere goes on as "
        + "ever): the QUARREL goes THROUGH.");
    for (int law = 0; law < 4; law++) {
      Bench x = Bench.of("cloth years 1 law " + law + " odds 0;claim;quarrel 0 by 7 at 0;");
      x.due("through(0)", 7).due("hem(0)", 0).due("loud()", 1).due("pulls(0)", 1).due("rips(0)", 0);
    }
    // 5 to a claim that has none, 4 to the hem
    Bench y = Bench.of("cloth years 1 law 0 odds 0;claim;claim;thread 1 to 0 holds 50;thread 1 to hem holds 50;"
        + "quarrel 1 by 9 at 0;");
    y.due("through(0)", 5).due("hem(0)", 4).due("has(0, 0)", 5).due("has(0, 1)", 4).due("loud()", 1);
    y.due("strength(0, 1)", 49);
    // a share of none is no load: nothing is lost at claim 0
    Bench z = Bench.of("cloth years 1 law 1 odds 0;claim;claim;thread 1 to 0 holds 50;thread 1 to hem holds 51;"
        + "quarrel 1 by 9 at 0;");
    z.due("through(0)", 0).due("hem(0)", 9).due("loud()", 0);
  }

  // ---- term III

  private static void tearing() {
    Bench.says("III", "Then all THREADS whose SHARE is more than their STRENGTH are TORN, at once");
    Bench.of(Bench.law(0, 10) + "quarrel 0 by 10 at 0;").due("rips(0)", 0).due("pulls(0)", 1).due("torn(1)", 0);
    Bench.of(Bench.law(0, 10) + "quarrel 0 by 11 at 0;").due("rips(0)", 1).due("pulls(0)", 2).due("torn(1)", 1);
    // both by the first pull, not one by each
    Bench.of(Bench.law(0, 5, 5) + "quarrel 0 by 12 at 0;").due("rips(0)", 3).due("pulls(0)", 2);
    // the second holds 5 of 10: torn by what is pulled anew
    Bench.of(Bench.law(0, 4, 5) + "quarrel 0 by 10 at 0;").due("rips(0)", 3).due("pulls(0)", 3);
    Bench.says("III", "if there were any, the QUARREL pulls anew, all of it, as II, till there are none");
    Bench x = Bench.of(Bench.law(0, 4, 10) + "quarrel 0 by 10 at 0;");
    x.due("pulls(0)", 2).due("has(0, 0)", 0).due("has(0, 1)", 10).due("hem(0)", 10).due("rips(0)", 1);
    Bench chain = Bench.of("cloth years 1 law 0 odds 0;claim;claim;thread 0 to hem holds 3;thread 1 to 0 holds 9;"
        + "quarrel 1 by 4 at 0;");
    // the one below tears; what is above it goes on with its share, and is worn
    chain.due("rips(0)", 1).due("pulls(0)", 2).due("has(0, 1)", 4).due("has(0, 0)", 0).due("through(0)", 4);
    Bench most = Bench.of("cloth years 1 law 1 odds 0;claim;" + "thread 0 to hem holds 5;".repeat(16)
        + "quarrel 0 by 6 at 0;");
    most.due("pulls(0)", 17).due("rips(0)", 65535).due("through(0)", 6);
  }

  private static void wearing() {
    Bench.says("III", "Then each is worn: its STRENGTH is less by a fifth of its SHARE (of the last pull; cut).");
    int[][] rows = {{1, 0}, {4, 0}, {5, 1}, {9, 1}, {10, 2}, {14, 2}, {15, 3}, {60, 12}};
    for (int[] row : rows) {
      Bench x = Bench.of(Bench.law(0, 60) + "quarrel 0 by " + row[0] + " at 0;");
      x.due("strength(0, 1)", 60 - row[1]).due("worn(0)", row[1]).due("strength(0, 2)", 60 - row[1]);
    }
    // 5 by the first pull, 10 by the last: worn by 2 alone
    Bench.of(Bench.law(0, 4, 50) + "quarrel 0 by 10 at 0;").due("strength(1, 1)", 48).due("worn(1)", 2).due("worn(0)", 0);
    // of a first pull alone: not worn
    Bench first = Bench.of("cloth years 1 law 0 odds 0;claim;claim;thread 0 to hem holds 50;thread 1 to 0 holds 9;"
        + "quarrel 1 by 10 at 0;");
    first.due("rips(0)", 2).due("strength(0, 1)", 50).due("has(0, 0)", 0).due("worn(0)", 0);
    Bench five = Bench.of(Bench.law(0, 5) + "quarrel 0 by 5 at 0;quarrel 0 by 4 at 1;");
    five.due("strength(0, 1)", 4).due("strength(0, 2)", 4).due("torn(2)", 0);
  }

  // ---- term IV

  private static void words() {
    Bench.says("IV", "In each YEAR ahead of the last first words are let in (acts, in order)");
    Bench x = Bench.of(Bench.law(0, 10) + "quarrel 0 by 11 at 0;quarrel 0 by 9 at 1;");
    x.due("strength(0, 1)", 0).due("sews(0, 1, 0)", 1).due("strength(0, 0)", 10).due("strength(0, 1)", 9);
    // in the year of the quarrel ahead of it, though told behind it
    x.due("strength(0, 2)", 8).due("sews(0, 60, 2)", -2).due("sews(0, 2, 1)", 1).due("strength(0, 2)", 10);
    x.due("strength(0, 1)", 9);
    Bench.says("IV", "STRENGTH of a THREAD is more by so much (of a TORN one, too)");
    Bench y = Bench.of(Bench.law(0, 10) + "quarrel 0 by 11 at 0;");
    y.due("sews(0, 1, 1)", 1).due("strength(0, 1)", 0).due("strength(0, 2)", 1).due("torn(1)", 1).due("torn(2)", 0);
    y.due("sews(0, 60, 1)", 1).due("strength(0, 2)", 61);
    Bench.says("IV", "if that is above 99, then 99");
    int[][] rows = {{59, 38, 97}, {60, 38, 98}, {60, 39, 99}, {60, 40, 99}, {60, 60, 99}};
    for (int[] row : rows) {
      Bench.of(Bench.law(0, row[0])).due("sews(0, " + row[1] + ", 0)", 1).due("strength(0, 1)", row[2]);
    }
    Bench z = Bench.of(Bench.law(0, 60));
    z.due("sews(0, 39, 0)", 1).due("sews(0, 1, 0)", 1).due("strength(0, 1)", 99).due("sews(0, 1, 1)", 1);
    z.due("strength(0, 2)", 99).due("stuff(0, 2)", 99);
    Bench.says("IV", "(also of one that was above it by V)");
    // 60 and 48 hold 90 twice; cut to 99 by a word it holds the first alone
    Bench v = Bench.of(Bench.law(0, 60) + "quarrel 0 by 90 at 0;quarrel 0 by 90 at 1;");
    v.due("word(0, 0)", 48).due("sews(0, 1, 0)", 0).due("word(0, 0)", -1).due("undo()", 0);
    // 90 less 18 and 30 is 99, not 102: enough; with 107 less 18 and 1 it is just enough
    v.due("sews(0, 30, 1)", 0).due("word(0, 0)", 30).due("undo()", 0).due("sews(0, 1, 1)", 0).due("word(0, 0)", 47);
  }

  private static void quarrelsInOrder() {
    Bench.says("IV", "Then its QUARRELS come, told ones, then those of acts, in order.");
    Bench x = Bench.of(Bench.law(0, 10) + "quarrel 0 by 10 at 0;quarrel 0 by 9 at 0;");
    x.due("rips(0)", 0).due("rips(1)", 1).due("bears(0)", 10);
    Bench y = Bench.of(Bench.law(0, 10) + "quarrel 0 by 9 at 0;quarrel 0 by 10 at 0;");
    y.due("rips(0)", 0).due("rips(1)", 1).due("bears(0)", 9);
    Bench z = Bench.of(Bench.law(0, 10) + "quarrel 0 by 9 at 0;");
    z.due("quarrels(0, 10, 0)", 0).due("bears(0)", 9).due("rips(0)", 0);
    Bench acts = Bench.of(Bench.law(0, 10));
    acts.due("quarrels(0, 10, 0)", 1).due("quarrels(0, 9, 0)", 0).due("bears(0)", 10).due("anew()", 2);
    acts.due("quarrels(0, 9, 0)", 1).due("quarrels(0, 10, 0)", 0).due("bears(0)", 9).due("anew()", 2);
    // by years first, whatever the order in which they were told or done
    acts.due("quarrels(0, 10, 1)", 1).due("quarrels(0, 9, 0)", 0).due("strength(0, 1)", 9).due("bears(0)", 9);
    Bench years = Bench.of(Bench.law(0, 10) + "quarrel 0 by 10 at 1;quarrel 0 by 5 at 0;");
    years.due("rips(1)", 0).due("strength(0, 1)", 9).due("rips(0)", 1).due("strength(0, 2)", 0);
    Bench.says("IV", "So it is in the next YEAR.");
    Bench w = Bench.of(Bench.law(0, 20) + "quarrel 0 by 10 at 0;quarrel 0 by 10 at 1;");
    w.due("strength(0, 0)", 20).due("strength(0, 1)", 18).due("strength(0, 2)", 16);
  }

  private static void holesAndHung() {
    Bench.says("IV", "HOLE: a CLAIM all of whose THREADS are TORN (or that has none).");
    Bench x = Bench.of("cloth years 1 law 0 odds 0;claim;claim;claim;thread 1 to 0 holds 1;thread 1 to 0 holds 9;"
        + "thread 2 to hem holds 3;quarrel 1 by 4 at 0;quarrel 2 by 4 at 0;");
    x.due("holes(0)", 1).due("rips(0)", 1).due("holes(1)", 5);
    Bench.says("IV", "HUNG: one from which THREADS that are not TORN lead to the HEM, over others or not.");
    x.due("hung(0)", 4).due("hung(1)", 0);
    Bench y = Bench.of("cloth years 1 law 0 odds 0;claim;claim;claim;claim;thread 0 to hem holds 19;thread 1 to 0 holds 9;"
        + "thread 2 to 1 holds 9;thread 3 to hem holds 9;thread 3 to 2 holds 9;quarrel 1 by 10 at 0;");
    // over claim 1 no more; claim 2 is no hole, and does not hang
    y.due("hung(0)", 15).due("rips(0)", 2).due("holes(1)", 2).due("hung(1)", 9);
  }

  // ---- promises 9 to 23

  private static void strength() {
    Bench.says(9, "STRENGTH of a THREAD in a YEAR.");
    int[][] rows = {{10, 5, 4}, {10, 5, 4}, {10, 0, 0}, {10, 0, 0}};
    Bench x = Bench.of(TWO);
    for (int y = 0; y < 4; y++) {
      for (int t = 0; t < 3; t++) x.due("strength(" + t + ", " + y + ")", rows[y][t]);
    }
    Bench.says(9, "-2: there are none such.");
    x.beyond("strength(%, 0)", -2, 3).beyond("strength(0, %)", -2, 4).beyond("strength(2, %)", -2, 4).unmoved();
    Bench.of(BARE).due("strength(0, 0)", -2);
    new Bench().due("strength(0, 0)", -2);
  }

  private static void torn() {
    Bench.says(10, "THREADS that are TORN in a YEAR, as bits.");
    Bench x = Bench.of(TWO);
    x.due("torn(0)", 0).due("torn(1)", 0).due("torn(2)", 6).due("torn(3)", 6);
    Bench all = Bench.of("cloth years 1 law 1 odds 0;claim;" + "thread 0 to hem holds 5;".repeat(16)
        + "quarrel 0 by 6 at 0;");
    all.due("torn(0)", 0).due("torn(1)", 65535);
    Bench.of(BARE).due("torn(0)", 0).due("torn(2)", 0).due("torn(3)", -2);
    Bench.says(10, "-2: there is none such, no CLOTH.");
    x.beyond("torn(%)", -2, 4).unmoved();
    new Bench().due("torn(0)", -2);
  }

  private static void tears() {
    Bench.says(11, "The first YEAR in which a THREAD is TORN.");
    Bench x = Bench.of(TWO);
    x.due("tears(1)", 2).due("tears(2)", 2);
    Bench y = Bench.of(TWICE);
    y.due("tears(0)", 1).due("sews(0, 7, 1)", 0).due("strength(0, 2)", 7).due("strength(0, 3)", 0).due("tears(0)", 1);
    Bench.of(Bench.law(0, 9) + "quarrel 0 by 10 at 1;").due("tears(0)", 2);
    Bench.says(11, "NONE: in none; -2: there is none such.");
    x.due("tears(0)", -1).beyond("tears(%)", -2, 3).unmoved();
    Bench.of(BARE).due("tears(0)", -2);
    new Bench().due("tears(0)", -2);
  }

  private static void holes() {
    Bench.says(12, "HOLES in a YEAR, as bits.");
    Bench x = Bench.of(TWO);
    x.due("holes(0)", 0).due("holes(1)", 0).due("holes(2)", 2).due("holes(3)", 2);
    Bench.of("cloth years 1 law 0 odds 0;" + "claim;".repeat(8)).due("holes(0)", 255).due("holes(1)", 255);
    Bench.of(BARE).due("holes(0)", 0).due("holes(2)", 0);
    Bench.says(12, "-2: there is none such, no CLOTH.");
    x.beyond("holes(%)", -2, 4).unmoved();
    new Bench().due("holes(0)", -2);
    Bench.says(13, "The first YEAR in which a CLAIM is a HOLE.");
    Bench y = Bench.of(TWO);
    y.due("hole(1)", 2);
    Bench.of("cloth years 1 law 0 odds 0;claim;").due("hole(0)", 0);
    Bench.of(Bench.law(0, 9) + "quarrel 0 by 10 at 1;").due("hole(0)", 2);
    Bench.of(TWICE).due("sews(0, 7, 1)", 0).due("hole(0)", 1).due("holes(2)", 0).due("holes(3)", 1);
    Bench.says(13, "NONE: in none; -2: there is none such.");
    y.due("hole(0)", -1).beyond("hole(%)", -2, 2).unmoved();
    Bench.of(BARE).due("hole(0)", -2);
    new Bench().due("hole(0)", -2);
  }

  private static void hung() {
    Bench.says(14, "CLAIMS that are HUNG in a YEAR, as bits.");
    Bench x = Bench.of(TWO);
    x.due("hung(0)", 3).due("hung(1)", 3).due("hung(2)", 1).due("hung(3)", 1);
    StringBuilder chain = new StringBuilder("cloth years 1 law 0 odds 0;claim;thread 0 to hem holds 9;");
    for (int c = 1; c < 8; c++) chain.append("claim;thread ").append(c).append(" to ").append(c - 1).append(" holds 9;");
    Bench.of(chain.toString()).due("hung(0)", 255).due("hung(1)", 255);
    Bench.of(chain + "quarrel 0 by 10 at 0;").due("hung(0)", 255).due("hung(1)", 0);
    Bench.of(BARE).due("hung(0)", 0).due("hung(2)", 0);
    Bench.says(14, "-2: there is none such, no CLOTH.");
    x.beyond("hung(%)", -2, 4).unmoved();
    new Bench().due("hung(0)", -2);
    Bench.says(15, "The first YEAR in which a CLAIM is not HUNG.");
    Bench y = Bench.of(TWO);
    y.due("falls(1)", 2);
    Bench.of(chain + "quarrel 0 by 10 at 0;").due("falls(0)", 1).due("falls(7)", 1);
    Bench.of("cloth years 1 law 0 odds 0;claim;claim;thread 1 to 0 holds 9;").due("falls(1)", 0).due("falls(0)", 0);
    Bench.of(TWICE).due("sews(0, 7, 1)", 0).due("hung(2)", 1).due("falls(0)", 1);
    Bench.of(Bench.law(0, 9) + "quarrel 0 by 10 at 1;").due("falls(0)", 2);
    Bench.says(15, "NONE: in none; -2: there is none such.");
    y.due("falls(0)", -1).beyond("falls(%)", -2, 2).unmoved();
    Bench.of(BARE).due("falls(0)", -2);
    new Bench().due("falls(0)", -2);
  }

  private static void sums() {
    Bench.says(16, "STRENGTHS of all THREADS in a YEAR.");
    Bench x = Bench.of(TWO);
    x.due("sum(0)", 19).due("sum(1)", 19).due("sum(2)", 10).due("sum(3)", 10);
    Bench.of(BARE).due("sum(0)", 0).due("sum(2)", 0);
    Bench.of("cloth years 1 law 0 odds 0;claim;" + "thread 0 to hem holds 60;".repeat(16)).due("sum(1)", 960);
    Bench.says(16, "-2: there is none such, no CLOTH.");
    x.beyond("sum(%)", -2, 4).unmoved();
    new Bench().due("sum(0)", -2);
  }

  private static void strongest() {
    Bench.says(17, "The strongest THREAD in a YEAR, the first of several.");
    Bench.of(Bench.law(0, 8, 9, 9)).due("strongest(0)", 1).due("strongest(2)", 1);
    Bench.of(Bench.law(0, 9, 9, 8)).due("strongest(0)", 0);
    Bench.of("cloth years 1 law 0 odds 0;claim;" + "thread 0 to hem holds 1;".repeat(15) + "thread 0 to hem holds 2;")
        .due("strongest(0)", 15);
    // those that are torn are threads, too
    Bench.of(Bench.law(0, 2, 3) + "quarrel 0 by 90 at 0;").due("strongest(0)", 1).due("strongest(1)", 0);
    Bench.says(17, "NONE: there are none; -2 likewise.");
    Bench.of(BARE).due("strongest(0)", -1).due("strongest(2)", -1).due("strongest(3)", -2);
    Bench.of(TWO).beyond("strongest(%)", -2, 4).unmoved();
    new Bench().due("strongest(0)", -2);
  }

  private static void weakest() {
    Bench.says(18, "The weakest that is not TORN, the first of several.");
    Bench.of(Bench.law(0, 9, 8, 8)).due("weakest(0)", 1).due("weakest(2)", 1);
    Bench.of(Bench.law(0, 8, 8, 9)).due("weakest(0)", 0);
    Bench.of(Bench.law(0, 1, 50, 40) + "quarrel 0 by 6 at 0;").due("weakest(0)", 0).due("weakest(1)", 2);
    Bench.of("cloth years 1 law 0 odds 0;claim;" + "thread 0 to hem holds 2;".repeat(15) + "thread 0 to hem holds 1;")
        .due("weakest(0)", 15);
    Bench.says(18, "NONE: there are none; -2 likewise.");
    Bench.of(Bench.law(0, 1, 1) + "quarrel 0 by 90 at 0;").due("weakest(0)", 0).due("weakest(1)", -1);
    Bench.of(BARE).due("weakest(0)", -1).due("weakest(2)", -1).due("weakest(3)", -2);
    Bench.of(TWO).beyond("weakest(%)", -2, 4).unmoved();
    new Bench().due("weakest(0)", -2);
  }

  private static void loses() {
    Bench.says(19, "in the YEAR behind one ahead of the last (below 0, too)");
    Bench x = Bench.of(TWO);
    x.due("loses(0)", 0).due("loses(1)", 9).due("loses(2)", 0).due("sews(2, 60, 2)", 3).due("loses(2)", -60);
    Bench.of(BARE).due("loses(0)", 0).due("loses(1)", 0);
    Bench.says(19, "-100,000: there is none such.");
    x.beyond("loses(%)", -100000, 3).refused("loses(4)", -100000).unmoved();
    Bench.of("cloth years 1 law 0 odds 0;").due("loses(0)", 0).due("loses(1)", -100000);
    Bench.of("cloth years 12 law 0 odds 0;").due("loses(11)", 0).due("loses(12)", -100000);
    new Bench().due("loses(0)", -100000);
  }

  private static void bare() {
    Bench.says(20, "CLAIMS with just one THREAD that is not TORN in a YEAR, as bits.");
    Bench x = Bench.of("cloth years 1 law 0 odds 0;claim;claim;claim;claim;thread 1 to hem holds 5;"
        + "thread 2 to hem holds 5;thread 2 to 0 holds 1;thread 3 to hem holds 5;quarrel 1 by 6 at 0;quarrel 2 by 4 at 0;");
    // claims with 0, 1, 2, 1; then 0, 0, 1, 1
    x.due("bare(0)", 10).due("bare(1)", 12);
    StringBuilder all = new StringBuilder("cloth years 1 law 0 odds 0;");
    for (int c = 0; c < 8; c++) all.append("claim;thread ").append(c).append(" to hem holds 1;");
    Bench.of(all.toString()).due("bare(0)", 255).due("bare(1)", 255);
    Bench.of(BARE).due("bare(0)", 0).due("bare(2)", 0);
    Bench.says(20, "-2: there is none such, no CLOTH.");
    x.beyond("bare(%)", -2, 2).unmoved();
    new Bench().due("bare(0)", -2);
  }

  private static void frail() {
    Bench.says(21, "The first YEAR in which some CLAIM is not HUNG.");
    Bench.of(TWO).due("frail()", 2);
    Bench.of(Bench.law(0, 9) + "quarrel 0 by 10 at 0;").due("frail()", 1);
    Bench.of(Bench.law(0, 9) + "quarrel 0 by 10 at 1;").due("frail()", 2);
    Bench.of(Bench.law(0, 9) + "claim;").due("frail()", 0);
    Bench.of("cloth years 1 law 0 odds 0;" + "claim;".repeat(8) + "thread 0 to hem holds 1;").due("frail()", 0);
    Bench.says(21, "NONE: in none; -2: there is no CLOTH.");
    Bench.of(Bench.law(0, 9) + "quarrel 0 by 10 at 2;").due("frail()", -1);
    Bench.of(BARE).due("frail()", -1);
    new Bench().due("frail()", -2);
  }

  private static void stuff() {
    Bench.says(22, "STRENGTHS of THREADS of a CLAIM in a YEAR, together.");
    Bench x = Bench.of(TWO);
    x.due("stuff(0, 0)", 10).due("stuff(1, 0)", 9).due("stuff(1, 1)", 9).due("stuff(1, 2)", 0).due("stuff(0, 3)", 10);
    Bench.of("cloth years 1 law 0 odds 0;claim;").due("stuff(0, 0)", 0);
    Bench.of("cloth years 1 law 0 odds 0;claim;" + "thread 0 to hem holds 60;".repeat(16)).due("stuff(0, 1)", 960);
    Bench.says(22, "-2: there are none such.");
    x.beyond("stuff(%, 0)", -2, 2).beyond("stuff(0, %)", -2, 4).beyond("stuff(1, %)", -2, 4).unmoved();
    Bench.of(BARE).due("stuff(0, 0)", -2);
    new Bench().due("stuff(0, 0)", -2);
  }

  private static void steps() {
    Bench.says(23, "How many THREADS one goes by at least from a CLAIM to the HEM, by such as are not TORN in a YEAR.");
    StringBuilder chain = new StringBuilder("cloth years 1 law 0 odds 0;claim;thread 0 to hem holds 9;");
    for (int c = 1; c < 8; c++) chain.append("claim;thread ").append(c).append(" to ").append(c - 1).append(" holds 9;");
    Bench x = Bench.of(chain.toString());
    for (int c = 0; c < 8; c++) x.due("steps(" + c + ", 0)", c + 1);
    // one step, until that thread tears: then the long way
    Bench y = Bench.of(chain + "thread 7 to hem holds 1;thread 7 to 4 holds 9;quarrel 7 by 6 at 0;");
    y.due("steps(7, 0)", 1).due("steps(7, 1)", 6).due("steps(6, 1)", 7);
    // the shorter way first, and last
    Bench.of("cloth years 1 law 0 odds 0;claim;claim;thread 0 to hem holds 9;thread 1 to hem holds 9;thread 1 to 0 holds 9;")
        .due("steps(1, 0)", 1);
    Bench.of("cloth years 1 law 0 odds 0;claim;claim;thread 0 to hem holds 9;thread 1 to 0 holds 9;thread 1 to hem holds 9;")
        .due("steps(1, 0)", 1);
    Bench.says(23, "NONE: it is not HUNG; -2: there are none such.");
    Bench z = Bench.of(TWO);
    z.due("steps(1, 1)", 1).due("steps(1, 2)", -1).due("steps(0, 3)", 1);
    Bench.of("cloth years 1 law 0 odds 0;claim;claim;thread 1 to 0 holds 9;").due("steps(0, 0)", -1)
        .due("steps(1, 0)", -1);
    z.beyond("steps(%, 0)", -2, 2).beyond("steps(0, %)", -2, 4).beyond("steps(1, %)", -2, 4).unmoved();
    new Bench().due("steps(0, 0)", -2);
  }

  // ---- promises 24 to 33

  private static void has() {
    Bench.says(24, "SHARE of a THREAD in the last pull of a QUARREL told (0 without).");
    Bench x = Bench.of(TWO);
    x.due("has(0, 0)", 4).due("has(0, 1)", 4).due("has(0, 2)", 4).due("has(1, 0)", 0).due("has(1, 1)", 0);
    Bench.of(Bench.law(1, 9, 10) + "quarrel 0 by 5 at 0;").due("has(0, 0)", 0).due("has(0, 1)", 5);
    Bench.says(24, "NONE: it does not come (told of the last YEAR, or behind); -2: there are none such.");
    String ten = Bench.law(0, 60);
    Bench y = Bench.of(ten + "quarrel 0 by 1 at 1;quarrel 0 by 1 at 2;quarrel 0 by 1 at 3;quarrel 0 by 1 at 11;");
    y.due("has(0, 0)", 1).due("has(1, 0)", -1).due("has(2, 0)", -1).due("has(3, 0)", -1);
    Bench last = Bench.of("cloth years 12 law 0 odds 0;claim;thread 0 to hem holds 9;quarrel 0 by 1 at 11;");
    last.due("has(0, 0)", 1);
    y.refused("has(1, 1)", -2).beyond("has(%, 0)", -2, 4).beyond("has(0, %)", -2, 1).beyond("has(3, %)", -2, 1);
    y.unmoved();
    new Bench().due("has(0, 0)", -2);
  }

  private static void pulls() {
    Bench.says(25, "How often a QUARREL told pulls (1 and as often as it pulls anew).");
    Bench x = Bench.of(TWO);
    x.due("pulls(0)", 1).due("pulls(1)", 2);
    Bench.of("cloth years 1 law 1 odds 0;claim;" + "thread 0 to hem holds 5;".repeat(16) + "quarrel 0 by 6 at 0;")
        .due("pulls(0)", 17);
    Bench.of("cloth years 1 law 0 odds 0;claim;quarrel 0 by 6 at 0;").due("pulls(0)", 1);
    Bench.says(25, "0: it does not come; -2: there is none such.");
    x.due("pulls(2)", 0).beyond("pulls(%)", -2, 3).unmoved();
    Bench.of(Bench.law(0, 9) + "quarrel 0 by 1 at 1;quarrel 0 by 1 at 2;").due("pulls(0)", 1).due("pulls(1)", 0);
    new Bench().due("pulls(0)", -2);
  }

  private static void rips() {
    Bench.says(26, "THREADS that are TORN in it (in any of its pulls; worn out by it, too), as bits.");
    Bench x = Bench.of(TWO);
    x.due("rips(0)", 0).due("rips(1)", 6).due("rips(2)", 0);
    // one by each of its pulls
    Bench.of(Bench.law(0, 4, 5) + "quarrel 0 by 10 at 0;").due("rips(0)", 3);
    Bench.of(Bench.law(1, 4, 5, 9) + "quarrel 0 by 6 at 0;").due("rips(0)", 0);
    // what was torn ahead of it is not torn in it
    Bench.of(Bench.law(0, 4, 20) + "quarrel 0 by 10 at 0;quarrel 0 by 19 at 1;").due("rips(0)", 1).due("rips(1)", 2);
    // no thread is ever worn out: of a share that it holds at least four fifths are left
    Bench.of(Bench.law(0, 1) + "quarrel 0 by 1 at 0;quarrel 0 by 1 at 1;").due("rips(0)", 0).due("rips(1)", 0)
        .due("strength(0, 2)", 1);
    Bench.says(26, "-2 likewise.");
    x.beyond("rips(%)", -2, 3).unmoved();
    new Bench().due("rips(0)", -2);
  }

  private static void through() {
    Bench.says(27, "LOAD that is lost in its last pull (0: it does not go THROUGH).");
    Bench x = Bench.of(TWO);
    x.due("through(0)", 0).due("through(1)", 12);
    Bench.of(Bench.law(0, 1) + "quarrel 0 by 90 at 0;").due("through(0)", 90);
    // lost at first, not by the last pull
    Bench first = Bench.of("cloth years 1 law 0 odds 0;claim;claim;thread 1 to 0 holds 3;thread 1 to hem holds 50;"
        + "quarrel 1 by 10 at 0;");
    first.due("pulls(0)", 2).due("through(0)", 0).due("loud()", 0);
    // lost at two claims: 5 at claim 1, 4 at claim 0
    Bench.of("cloth years 1 law 0 odds 0;claim;claim;claim;thread 2 to 1 holds 9;thread 2 to 0 holds 9;"
        + "quarrel 2 by 9 at 0;").due("through(0)", 9).due("hem(0)", 0);
    Bench.says(27, "NONE: it does not come; -2 likewise.");
    x.due("through(2)", -1).beyond("through(%)", -2, 3).unmoved();
    Bench.of("cloth years 1 law 0 odds 0;claim;quarrel 0 by 6 at 1;").due("through(0)", -1);
    new Bench().due("through(0)", -2);
  }

  private static void hem() {
    Bench.says(28, "What comes into the HEM by its last pull.");
    Bench x = Bench.of(TWO);
    x.due("hem(0)", 8).due("hem(1)", 0);
    Bench.of("cloth years 1 law 0 odds 0;claim;claim;thread 1 to 0 holds 9;thread 1 to hem holds 9;quarrel 1 by 7 at 0;")
        .due("hem(0)", 3).due("through(0)", 4);
    // 5 and 5 by the first pull, 10 by the last
    Bench.of(Bench.law(0, 4, 50) + "quarrel 0 by 10 at 0;").due("hem(0)", 10);
    Bench.says(28, "NONE: it does not come; -2 likewise.");
    x.due("hem(2)", -1).beyond("hem(%)", -2, 3).unmoved();
    new Bench().due("hem(0)", -2);
  }

  private static void loud() {
    Bench.says(29, "QUARRELS told that go THROUGH, as bits.");
    Bench x = Bench.of(TWO);
    x.due("loud()", 2).due("quarrels(1, 1, 2)", 1).due("loud()", 2);
    Bench.of("cloth years 1 law 0 odds 0;claim;" + "quarrel 0 by 1 at 0;".repeat(10)).due("loud()", 1023);
    Bench.of("cloth years 1 law 0 odds 0;claim;" + "quarrel 0 by 1 at 1;".repeat(10)).due("loud()", 0);
    Bench.of(BARE).due("loud()", 0);
    Bench.says(29, "-2: there is no CLOTH.");
    new Bench().due("loud()", -2);
  }

  private static void worst() {
    Bench.says(30, "The QUARREL told in which most THREADS are TORN, the first of several, if any are.");
    Bench.of(TWO).due("worst()", 1);
    String two = "cloth years 1 law 0 odds 0;claim;claim;claim;thread 0 to hem holds 1;thread 1 to hem holds 1;"
        + "thread 1 to hem holds 1;thread 2 to hem holds 1;thread 2 to hem holds 1;";
    Bench.of(two + "quarrel 0 by 9 at 0;quarrel 1 by 9 at 0;quarrel 2 by 9 at 0;").due("worst()", 1);
    Bench.of(two + "quarrel 0 by 9 at 0;quarrel 0 by 9 at 0;").due("worst()", 0);
    Bench.of(two + "quarrel 2 by 9 at 0;quarrel 1 by 9 at 0;").due("worst()", 0);
    Bench.of(two + "quarrel 0 by 1 at 0;".repeat(9) + "quarrel 0 by 9 at 0;").due("worst()", 9);
    Bench.says(30, "NONE: none; -2 likewise.");
    Bench.of(two + "quarrel 0 by 1 at 0;quarrel 1 by 9 at 1;").due("worst()", -1);
    // it goes through, but nothing is torn
    Bench.of("cloth years 1 law 0 odds 0;claim;quarrel 0 by 6 at 0;").due("worst()", -1);
    // of an act: none that was told
    Bench act = Bench.of(two);
    act.due("quarrels(1, 9, 0)", 5).due("worst()", -1);
    Bench.of(BARE).due("worst()", -1);
    new Bench().due("worst()", -2);
  }

  private static void bears() {
    Bench.says(31, "All SHARES of a THREAD in last pulls of QUARRELS (told, of acts), together.");
    Bench x = Bench.of(Bench.law(0, 60, 1) + "quarrel 0 by 10 at 0;quarrel 0 by 7 at 1;quarrel 0 by 9 at 2;");
    // 5 by the first pull aside: 10 by the last, then 7
    x.due("bears(0)", 17).due("bears(1)", 0).due("quarrels(0, 4, 0)", 1).due("bears(0)", 21);
    Bench.says(31, "-2: there is none such.");
    x.beyond("bears(%)", -2, 2).unmoved();
    Bench.of(BARE).due("bears(0)", -2);
    new Bench().due("bears(0)", -2);
  }

  private static void worn() {
    Bench.says(32, "How much of a THREAD's STRENGTH is worn away in all (III; TORN by a SHARE aside).");
    Bench x = Bench.of(Bench.law(0, 60, 1) + "quarrel 0 by 10 at 0;quarrel 0 by 7 at 1;quarrel 0 by 90 at 2;");
    x.due("worn(0)", 3).due("worn(1)", 0).due("strength(0, 2)", 57);
    x.due("quarrels(0, 5, 0)", 1).due("worn(0)", 4);
    // torn in the end: worn by 2 ahead of that
    Bench.of(Bench.law(0, 10) + "quarrel 0 by 10 at 0;quarrel 0 by 9 at 1;").due("worn(0)", 2).due("strength(0, 2)", 0);
    Bench.says(32, "-2 likewise.");
    x.beyond("worn(%)", -2, 2).unmoved();
    Bench.of(BARE).due("worn(0)", -2);
    new Bench().due("worn(0)", -2);
  }

  private static void idle() {
    Bench.says(33, "THREADS that never have a SHARE in last pulls, as bits.");
    Bench x = Bench.of(Bench.law(0, 60, 1, 50) + "quarrel 0 by 1 at 0;quarrel 0 by 9 at 2;");
    x.due("idle()", 6).due("quarrels(0, 2, 1)", 1).due("idle()", 4).due("undo()", 0);
    // by a first pull alone the second has one: torn, it has none in the last
    x.due("quarrels(0, 6, 1)", 1).due("idle()", 2);
    Bench.of("cloth years 1 law 0 odds 0;claim;" + "thread 0 to hem holds 1;".repeat(16)).due("idle()", 65535);
    Bench.of(BARE).due("idle()", 0);
    Bench.says(33, "-2: there is no CLOTH.");
    new Bench().due("idle()", -2);
  }
}
