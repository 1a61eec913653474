/** The edges of terms VIII to X and of promises 56 to 61, 66 and 67: sets, two quarrels, chance, evenings drawn. */
public final class GameEdgesTest {
  private static final String ONE = "cloth years 2 law 0 odds 5;claim;thread 0 to hem holds 10;quarrel 0 by 11 at 0;";
  /** Sets of threads 0, 1, 2 are worth 0 1 0 0 1 2 1 1, by their bits. */
  private static final String HARM = "cloth years 1 law 1 odds 5;claim;claim;thread 0 to hem holds 5;"
      + "thread 1 to 0 holds 10;thread 1 to hem holds 10;quarrel 1 by 8 at 0;";
  private static final String BARE = "cloth years 2 law 0 odds 5;";
  private static final String STEADY = "cloth years 1 law 0 odds 5;claim;thread 0 to hem holds 60;";
  /** Drawn from seeds 0, 1 and 2,000,000,000, one behind the other. */
  private static final int[] FROM_0 = {0, 8, 8, 7, 8, 7, 5, 1, 2, 0};
  private static final int[] FROM_1 = {8, 8, 3, 5, 1, 7, 0, 9, 2, 6};
  private static final int[] FROM_MOST = {4, 3, 1, 7, 6, 2, 7, 7, 5, 4};

  public static void main(String[] args) {
    setsOfThreads();
    ordersOfThreads();
    whatOneGets();
    rest();
    chances();
    draws();
    worth();
    share();
    rests();
    gets();
    chance();
    mean();
    drawn();
    luck();
    Bench.finish("GameEdgesTest", 56, 61, 66, 67);
  }

  private static String threads(int n) {
    return "cloth years 1 law 0 odds 0;claim;" + "thread 0 to hem holds 9;".repeat(n);
  }

  private static void fraction(Bench x, String call, long above, long below) {
    x.due(call.replace("%", "0"), above).due(call.replace("%", "1"), below);
  }

  // ---- term VIII

  private static void setsOfThreads() {
    Bench.says("VIII", "A set of THREADS alone is there (others TORN from YEAR 0 on; words let in to them do nothing)");
    Bench x = Bench.of(HARM);
    int[] due = {0, 1, 0, 0, 1, 2, 1, 1};
    for (int set = 0; set < 8; set++) x.due("worth(" + set + ")", due[set]);
    x.ask("sews(0, 60, 0)");
    // thread 0 holds now, if it is there
    int[] then = {0, 1, 0, 2, 1, 2, 1, 2};
    for (int set = 0; set < 8; set++) x.due("worth(" + set + ")", then[set]);
    x.due("strength(0, 0)", 5).due("hung(1)", 3);
    Bench.says("VIII", "it is worth as many CLAIMS as are HUNG in the last YEAR");
    // all of it falls in year 1, and is let in to again
    Bench y = Bench.of(ONE);
    y.due("worth(1)", 0).due("worth(0)", 0).due("sews(0, 1, 1)", 1).due("worth(1)", 1).due("worth(0)", 0);
    StringBuilder eight = new StringBuilder("cloth years 1 law 0 odds 0;claim;thread 0 to hem holds 9;");
    for (int c = 1; c < 8; c++) eight.append("claim;thread ").append(c).append(" to ").append(c - 1).append(" holds 9;");
    Bench.of(eight.toString()).due("worth(255)", 8).due("worth(254)", 0).due("worth(127)", 7);
  }

  private static void ordersOfThreads() {
    Bench.says("VIII", "each has what the set is worth more by it (below 0, too); each order is as likely: the mean");
    Bench x = Bench.of(HARM);
    fraction(x, "share(0, %)", 1, 2);
    fraction(x, "share(1, %)", -1, 2);
    fraction(x, "share(2, %)", 1, 1);
    // known anew behind an act
    x.ask("sews(0, 60, 0)");
    fraction(x, "share(0, %)", 7, 6);
    fraction(x, "share(1, %)", 1, 6);
    fraction(x, "share(2, %)", 2, 3);
    Bench.says("VIII", "(of the first eight THREADS alone; the rest are there always, in all these sets)");
    fraction(Bench.of(threads(1)), "share(0, %)", 1, 1);
    fraction(Bench.of(threads(2)), "share(1, %)", 1, 2);
    fraction(Bench.of(threads(7)), "share(6, %)", 1, 7);
    fraction(Bench.of(threads(8)), "share(7, %)", 1, 8);
    fraction(Bench.of(threads(9)), "share(7, %)", 0, 1);
    fraction(Bench.of(threads(16)), "share(0, %)", 0, 1);
    // the ninth is another claim's; claim 2 hangs by the eighth from claim 1, which the ninth keeps
    Bench nine = Bench.of("cloth years 1 law 0 odds 0;claim;claim;claim;" + "thread 0 to hem holds 9;".repeat(7)
        + "thread 2 to 1 holds 9;thread 1 to hem holds 9;");
    fraction(nine, "share(0, %)", 1, 7);
    fraction(nine, "share(7, %)", 1, 1);
  }

  // ---- term IX

  private static void whatOneGets() {
    Bench.says("IX", "It GETS as much as it pulls (0, if it goes THROUGH in its last pull)");
    Bench.of(STEADY + "quarrel 0 by 1 at 0;quarrel 0 by 60 at 0;").due("gets(0, 1, 0, 0)", 1).due("gets(1, 0, 0, 0)", 60);
    // into a hole
    Bench.of("cloth years 1 law 0 odds 5;claim;quarrel 0 by 90 at 0;quarrel 0 by 1 at 0;").due("gets(0, 1, 0, 0)", 0);
    // lost by the first pull, not by the last
    Bench.of("cloth years 1 law 0 odds 0;claim;claim;thread 1 to 0 holds 3;thread 1 to hem holds 50;quarrel 1 by 30 at 0;"
        + "quarrel 0 by 1 at 1;").due("gets(0, 1, 0, 0)", 10);
    // a part of it is lost
    Bench.of("cloth years 1 law 0 odds 0;claim;claim;thread 1 to 0 holds 50;thread 1 to hem holds 50;quarrel 1 by 30 at 0;"
        + "quarrel 0 by 1 at 1;").due("through(0)", 15).due("gets(0, 1, 0, 0)", 0);
    Bench.says("IX", "less 20 for each THREAD that is TORN in it (in any of its pulls; worn out by it, too)");
    // one by each of two pulls, then held by the third thread
    Bench.of("cloth years 1 law 0 odds 0;claim;thread 0 to hem holds 4;thread 0 to hem holds 7;thread 0 to hem holds 60;"
        + "quarrel 0 by 15 at 0;quarrel 0 by 1 at 0;").due("pulls(0)", 3).due("gets(0, 1, 0, 0)", -25);
    Bench.of("cloth years 1 law 1 odds 0;claim;" + "thread 0 to hem holds 5;".repeat(16)
        + "quarrel 0 by 6 at 0;quarrel 0 by 1 at 0;").due("gets(0, 1, 0, 0)", -320).due("gets(1, 0, 0, 0)", 0);
    Bench.says("IX", "held back, or of a YEAR there is not, 0; the other one likewise");
    Bench x = Bench.of(STEADY + "quarrel 0 by 60 at 0;quarrel 0 by 50 at 0;quarrel 0 by 5 at 1;quarrel 0 by 5 at 11;");
    x.due("gets(0, 1, 1, 0)", 0).due("gets(0, 1, 1, 1)", 0).due("gets(2, 0, 0, 0)", 0).due("gets(3, 0, 0, 1)", 0);
    // 60 are 48 behind the first one; without it they bear the other one
    x.due("gets(1, 0, 0, 0)", -20).due("gets(1, 0, 0, 1)", 50).due("gets(1, 0, 1, 1)", 0).due("gets(0, 1, 0, 1)", 60);
  }

  private static void rest() {
    Bench.says("IX", "REST: neither GETS more by the other choice alone.");
    // as much by either choice is at rest, too
    Bench.of(STEADY + "quarrel 0 by 5 at 1;quarrel 0 by 5 at 1;").due("rests(0, 1)", 15);
    Bench.of(STEADY + "quarrel 0 by 1 at 0;quarrel 0 by 1 at 0;").due("rests(0, 1)", 1);
    // torn for 20: nothing won or lost by it; with 19 less than by holding back, with 21 more
    for (int pull : new int[] {19, 20, 21}) {
      Bench x = Bench.of("cloth years 1 law 0 odds 0;claim;thread 0 to hem holds 1;thread 0 to hem holds 60;quarrel 0 by "
          + pull + " at 0;quarrel 0 by 1 at 1;");
      x.due("gets(0, 1, 0, 0)", pull - 20).due("rests(0, 1)", pull == 19 ? 10 : pull == 20 ? 15 : 5);
    }
  }

  // ---- term X

  private static void chances() {
    Bench.says("X", "CHANCE: each QUARREL told comes with odds in ten, by itself");
    int[][] due = {{1, 1}, {9, 10}, {4, 5}, {7, 10}, {3, 5}, {1, 2}, {2, 5}, {3, 10}, {1, 5}, {1, 10}, {0, 1}};
    for (int odds = 0; odds <= 10; odds++) {
      Bench x = Bench.of(ONE.replace("odds 5", "odds " + odds));
      fraction(x, "chance(0, %)", due[odds][0], due[odds][1]);
      fraction(x, "mean(%)", due[odds][0], due[odds][1]);
    }
    fraction(Bench.of(ONE.replace("odds 5", "odds 3") + "quarrel 0 by 11 at 1;"), "chance(0, %)", 49, 100);
    // two of 10 and 9 tear, one alone does not
    fraction(Bench.of("cloth years 1 law 0 odds 3;claim;thread 0 to hem holds 10;quarrel 0 by 10 at 0;quarrel 0 by 9 at 0;"),
        "chance(0, %)", 91, 100);
    Bench.says("X", "(those of acts are sure; also one of a YEAR there is not, to no end)");
    Bench x = Bench.of(ONE + "quarrel 0 by 90 at 2;quarrel 0 by 90 at 11;");
    fraction(x, "chance(0, %)", 1, 2);
    x.ask("quarrels(0, 11, 1)");
    fraction(x, "chance(0, %)", 0, 1);
    x.due("drawn(1, 1)", 0).due("luck(0, 20, 0)", 0);
    Bench.says("X", "FRACTIONS are told in lowest terms (0 / 1).");
    fraction(Bench.of("cloth years 1 law 0 odds 5;claim;"), "chance(0, %)", 0, 1);
    fraction(Bench.of("cloth years 1 law 0 odds 5;claim;" + "quarrel 0 by 1 at 0;".repeat(8)), "chance(0, %)", 0, 1);
    fraction(Bench.of(STEADY + "quarrel 0 by 1 at 0;".repeat(8)), "chance(0, %)", 1, 1);
    fraction(Bench.of(threads(9)), "share(0, %)", 0, 1);
    fraction(Bench.of(BARE), "mean(%)", 0, 1);
  }

  private static int below(int[] draws, int odds) {
    int bits = 0;
    for (int i = 0; i < draws.length; i++) if (draws[i] < odds) bits |= 1 << i;
    return bits;
  }

  private static void draws() {
    Bench.says("X", "DRAWS: x becomes (1103515245 x + 12345) modulo 2,147,483,648 (at first it is the seed); a draw: "
        + "x / 65536, cut, modulo 10.");
    String ten = "claim;thread 0 to hem holds 60;" + "quarrel 0 by 1 at 0;".repeat(10);
    for (int odds = 0; odds <= 10; odds++) {
      Bench x = Bench.of("cloth years 1 law 0 odds " + odds + ";" + ten);
      x.due("drawn(0, 0)", below(FROM_0, odds)).due("drawn(1, 0)", below(FROM_1, odds));
      x.due("drawn(2000000000, 0)", below(FROM_MOST, odds));
    }
    Bench.says("X", "EVENINGS drawn: QUARREL by QUARREL told a draw: below odds it comes.");
    // the first draw from 1 is 8
    Bench.of(ONE.replace("odds 5", "odds 8")).due("drawn(1, 0)", 0).due("drawn(1, 1)", 1);
    Bench.of(ONE.replace("odds 5", "odds 9")).due("drawn(1, 0)", 1).due("drawn(1, 1)", 0);
    Bench.of(ONE.replace("odds 5", "odds 0")).due("drawn(0, 0)", 0).due("drawn(0, 1)", 1);
    Bench.of(ONE.replace("odds 5", "odds 1")).due("drawn(0, 0)", 1).due("drawn(0, 1)", 0);
    Bench.of(ONE.replace("odds 5", "odds 10")).due("drawn(1, 0)", 1).due("drawn(1, 1)", 0);
    // one of a year there is not has a draw of its own, too
    Bench y = Bench.of("cloth years 1 law 0 odds 5;claim;thread 0 to hem holds 9;quarrel 0 by 90 at 5;quarrel 0 by 10 at 0;");
    y.due("drawn(0, 0)", 1).due("drawn(0, 1)", 1);
  }

  // ---- promises 56 and 57

  private static void worth() {
    Bench.says(56, "What a set of THREADS (bits) is worth (VIII; all sixteen).");
    Bench x = Bench.of("cloth years 1 law 0 odds 0;claim;claim;" + "thread 0 to hem holds 9;".repeat(15)
        + "thread 1 to hem holds 9;");
    x.due("worth(0)", 0).due("worth(1)", 1).due("worth(32767)", 1).due("worth(32768)", 1).due("worth(65535)", 2);
    x.due("worth(256)", 1).due("worth(33024)", 2);
    Bench.says(56, "-2: there is no such set, no CLOTH.");
    x.refused("worth(65536)", -2).refused("worth(-1)", -2).refused("worth(MIN)", -2).refused("worth(MAX)", -2).unmoved();
    Bench.of(HARM).due("worth(7)", 1).due("worth(8)", -2).due("worth(9)", -2).due("worth(-8)", -2);
    Bench.of(BARE).due("worth(0)", 0).due("worth(1)", -2);
    new Bench().due("worth(0)", -2);
  }

  private static void share() {
    Bench.says(57, "SHARE (VIII) of a THREAD (of the first eight), above (what 0; below 0, too), below (1).");
    Bench x = Bench.of(HARM);
    fraction(x, "share(0, %)", 1, 2);
    fraction(x, "share(1, %)", -1, 2);
    // torn or not, one that adds nothing has 0 / 1
    fraction(Bench.of("cloth years 1 law 0 odds 0;claim;claim;thread 1 to 0 holds 9;"), "share(0, %)", 0, 1);
    Bench.says(57, "-1,000: there are none such.");
    x.beyond("share(%, 0)", -1000, 3).beyond("share(%, 1)", -1000, 3).beyond("share(0, %)", -1000, 2).unmoved();
    Bench eight = Bench.of(threads(8));
    eight.due("share(7, 1)", 8).beyond("share(%, 0)", -1000, 8);
    Bench nine = Bench.of(threads(9));
    nine.due("share(7, 1)", 1).beyond("share(%, 0)", -1000, 8);
    Bench all = Bench.of(threads(16));
    all.due("share(7, 0)", 0).beyond("share(%, 1)", -1000, 8).refused("share(15, 0)", -1000).refused("share(16, 0)", -1000);
    Bench.of(BARE).due("share(0, 0)", -1000);
    new Bench().due("share(0, 0)", -1000);
  }

  // ---- promises 58 and 59

  private static void rests() {
    Bench.says(58, "as bits: 1 neither is held back, 2 the first one is, 4 the other one, 8 both");
    // 20 hold each of them alone; behind the other one quarrel 0 tears, and loses 20
    Bench x = Bench.of("cloth years 2 law 0 odds 5;claim;thread 0 to hem holds 20;quarrel 0 by 20 at 1;"
        + "quarrel 0 by 15 at 0;quarrel 0 by 1 at 5;");
    x.due("rests(0, 1)", 2).due("rests(1, 0)", 4).due("rests(0, 2)", 10).due("rests(2, 0)", 12);
    Bench.of(STEADY + "quarrel 0 by 1 at 0;quarrel 0 by 1 at 0;").due("rests(0, 1)", 1).due("rests(1, 0)", 1);
    // each tears for less than 20
    Bench.of("cloth years 1 law 0 odds 5;claim;claim;thread 0 to hem holds 1;thread 1 to hem holds 1;quarrel 0 by 9 at 0;"
        + "quarrel 1 by 9 at 0;").due("rests(0, 1)", 8).due("rests(1, 0)", 8);
    Bench.says(58, "-2: there are none such, one twice.");
    x.refused("rests(0, 0)", -2).refused("rests(2, 2)", -2);
    x.beyond("rests(%, 0)", -2, 3).beyond("rests(0, %)", -2, 3).refused("rests(3, 3)", -2).unmoved();
    // one of an act is none that was told
    Bench y = Bench.of(ONE);
    y.ask("quarrels(0, 1, 0)");
    y.due("rests(0, 1)", -2).due("rests(1, 0)", -2);
    Bench full = Bench.of(STEADY + "quarrel 0 by 1 at 0;".repeat(10));
    full.due("rests(9, 0)", 1).due("rests(0, 9)", 1).due("rests(9, 10)", -2);
    Bench.of(BARE).due("rests(0, 1)", -2);
    new Bench().due("rests(0, 1)", -2);
  }

  private static void gets() {
    Bench.says(59, "What the first of two GETS by the choices (1 it is held back, 0 not; below 0, too).");
    Bench x = Bench.of("cloth years 2 law 0 odds 5;claim;thread 0 to hem holds 20;quarrel 0 by 20 at 1;"
        + "quarrel 0 by 15 at 0;quarrel 0 by 1 at 5;");
    x.due("gets(0, 1, 0, 0)", -20).due("gets(0, 1, 0, 1)", 20).due("gets(0, 1, 1, 0)", 0).due("gets(0, 1, 1, 1)", 0);
    x.due("gets(1, 0, 0, 0)", 15).due("gets(1, 0, 0, 1)", 15).due("gets(1, 0, 1, 0)", 0).due("gets(1, 0, 1, 1)", 0);
    // a third one comes as ever: quarrel 1 in year 0
    x.due("gets(0, 2, 0, 1)", -20);
    Bench.says(59, "-1,000: there are none such, one twice.");
    x.refused("gets(0, 0, 0, 0)", -1000).refused("gets(2, 2, 1, 1)", -1000);
    x.beyond("gets(%, 0, 0, 0)", -1000, 3).beyond("gets(0, %, 0, 0)", -1000, 3);
    x.beyond("gets(0, 1, %, 0)", -1000, 2).beyond("gets(0, 1, 0, %)", -1000, 2).unmoved();
    Bench y = Bench.of(ONE);
    y.ask("quarrels(0, 1, 0)");
    y.due("gets(0, 1, 0, 0)", -1000).due("gets(1, 0, 0, 0)", -1000);
    Bench full = Bench.of(STEADY + "quarrel 0 by 1 at 0;".repeat(10));
    full.due("gets(9, 0, 0, 0)", 1).due("gets(0, 9, 0, 1)", 1).due("gets(10, 0, 0, 0)", -1000);
    new Bench().due("gets(0, 1, 0, 0)", -1000);
  }

  // ---- promises 60 and 61

  private static void chance() {
    Bench.says(60, "CHANCE (X): that a CLAIM is HUNG in the last YEAR, above, below.");
    Bench x = Bench.of("cloth years 2 law 0 odds 3;claim;claim;thread 0 to hem holds 10;thread 1 to hem holds 10;"
        + "quarrel 0 by 11 at 0;quarrel 1 by 11 at 0;quarrel 0 by 11 at 1;quarrel 1 by 9 at 7;");
    fraction(x, "chance(0, %)", 49, 100);
    fraction(x, "chance(1, %)", 7, 10);
    String eight = "cloth years 1 law 0 odds 1;claim;thread 0 to hem holds 1;" + "quarrel 0 by 2 at 0;".repeat(8);
    fraction(Bench.of(eight), "chance(0, %)", 43046721, 100000000);
    fraction(Bench.of(eight.replace("odds 1", "odds 5")), "chance(0, %)", 1, 256);
    fraction(Bench.of(eight.replace("odds 1", "odds 9")), "chance(0, %)", 1, 100000000);
    fraction(Bench.of(STEADY), "chance(0, %)", 1, 1);
    Bench.says(60, "-2: there are none such; -3: there are more than 8 QUARRELS told.");
    x.beyond("chance(%, 0)", -2, 2).beyond("chance(%, 1)", -2, 2).beyond("chance(0, %)", -2, 2).unmoved();
    Bench nine = Bench.of(eight + "quarrel 0 by 1 at 11;");
    nine.refused("chance(0, 0)", -3).refused("chance(0, 1)", -3);
    // -2 is told first, and asked first
    nine.refused("chance(1, 0)", -2).refused("chance(-1, 0)", -2).refused("chance(0, 2)", -2).refused("chance(0, -1)", -2);
    nine.unmoved();
    Bench.of(eight + "quarrel 0 by 1 at 11;quarrel 0 by 1 at 11;").due("chance(0, 0)", -3);
    // quarrels of acts are not counted
    Bench acts = Bench.of(eight);
    for (int i = 0; i < 30; i++) acts.ask("quarrels(0, 1, 0)");
    fraction(acts, "chance(0, %)", 43046721, 100000000);
    Bench.of(BARE).due("chance(0, 0)", -2);
    new Bench().due("chance(0, 0)", -2);
  }

  private static void mean() {
    Bench.says(61, "The mean of how many are, above, below.");
    Bench x = Bench.of("cloth years 2 law 0 odds 3;claim;claim;thread 0 to hem holds 10;thread 1 to hem holds 10;"
        + "quarrel 0 by 11 at 0;quarrel 1 by 11 at 0;quarrel 0 by 11 at 1;quarrel 1 by 9 at 7;");
    fraction(x, "mean(%)", 119, 100);
    StringBuilder all = new StringBuilder("cloth years 1 law 0 odds 9;");
    for (int c = 0; c < 8; c++) all.append("claim;thread ").append(c).append(" to hem holds 1;");
    fraction(Bench.of(all.toString()), "mean(%)", 8, 1);
    fraction(Bench.of(all + "quarrel 7 by 2 at 0;".repeat(8)), "mean(%)", 700000001, 100000000);
    fraction(Bench.of(BARE), "mean(%)", 0, 1);
    Bench.says(61, "-2: there are none such, no CLOTH; -3 likewise.");
    x.beyond("mean(%)", -2, 2).unmoved();
    Bench nine = Bench.of(all + "quarrel 7 by 2 at 0;".repeat(9));
    nine.refused("mean(0)", -3).refused("mean(1)", -3).refused("mean(2)", -2).refused("mean(-1)", -2).unmoved();
    new Bench().due("mean(0)", -2).due("mean(2)", -2);
  }

  // ---- promises 66 and 67

  private static void drawn() {
    Bench.says(66, "EVENINGS drawn (X) from a seed (0 .. 2,000,000,000), what 0: QUARRELS told that come, as bits, "
        + "1: CLAIMS HUNG in the last YEAR, as bits.");
    Bench x = Bench.of(ONE);
    x.due("drawn(0, 0)", 1).due("drawn(0, 1)", 0).due("drawn(1, 0)", 0).due("drawn(1, 1)", 1);
    x.due("drawn(2000000000, 0)", 1).due("drawn(2000000000, 1)", 0).due("drawn(1999999999, 0)", 1);
    Bench.of(ONE.replace("odds 5", "odds 4")).due("drawn(2000000000, 0)", 0).due("drawn(2000000000, 1)", 1);
    Bench.of(BARE).due("drawn(0, 0)", 0).due("drawn(0, 1)", 0);
    Bench.says(66, "-2: there are none such, no CLOTH.");
    x.refused("drawn(-1, 0)", -2).refused("drawn(2000000001, 0)", -2).refused("drawn(MIN, 1)", -2);
    x.refused("drawn(MAX, 1)", -2).beyond("drawn(0, %)", -2, 2).beyond("drawn(2000000000, %)", -2, 2).unmoved();
    new Bench().due("drawn(0, 0)", -2);
  }

  private static void luck() {
    Bench.says(67, "Of n (1 .. 20) such from seeds, the seed and 1, .., in how many a CLAIM is HUNG in the last YEAR.");
    // the first draws from 0, 1, .. are 0 8 8 7 7 5 6 4 4 2 3 1 1 0 0 8 9 7 7 6 6: it hangs from 5 on
    Bench x = Bench.of(ONE);
    int[] due = {0, 1, 2, 3, 4, 5, 6, 6, 6, 6, 6, 6, 6, 6, 6, 7, 8, 9, 10, 11};
    for (int n = 1; n <= 20; n++) x.due("luck(0, " + n + ", 0)", due[n - 1]);
    x.due("luck(1, 20, 0)", 12).due("luck(1, 1, 0)", 1).due("luck(2000000000, 1, 0)", 0);
    // from 2,000,000,000 on 4 2 2 1 1 9 0 8 8 6 7 5 5 4 4 2 3 1 1 0; the seed alone is held to its bounds
    x.due("luck(2000000000, 20, 0)", 7).due("luck(1999999981, 20, 0)", 10);
    Bench.says(67, "-2: there are none such.");
    x.refused("luck(-1, 1, 0)", -2).refused("luck(2000000001, 1, 0)", -2).refused("luck(MIN, 1, 0)", -2);
    x.refused("luck(MAX, 1, 0)", -2).refused("luck(0, 0, 0)", -2).refused("luck(0, 21, 0)", -2);
    x.refused("luck(0, -1, 0)", -2).refused("luck(0, MAX, 0)", -2).refused("luck(0, MIN, 0)", -2);
    x.beyond("luck(0, 1, %)", -2, 1).unmoved();
    Bench.of(BARE).due("luck(0, 1, 0)", -2);
    new Bench().due("luck(0, 1, 0)", -2);
  }
}
