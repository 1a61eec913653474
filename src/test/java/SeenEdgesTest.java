/** The edges of term VII and of promises 48 to 55: what was seen, and laws. */
public final class SeenEdgesTest {
  /** Told 12; 10 in year 1 and 9 in year 2. */
  private static final String WORN = "cloth years 2 law 0 odds 0;claim;thread 0 to hem holds 12;quarrel 0 by 10 at 0;"
      + "quarrel 0 by 9 at 1;";
  /** Nothing happens to two threads. */
  private static final String STILL = "cloth years 2 law 0 odds 0;claim;thread 0 to hem holds 12;thread 0 to hem holds 60;";
  private static final String BARE = "cloth years 2 law 0 odds 0;";
  private static final String[] FIVE = {"fits", "least", "greatest", "ask", "leaves"};

  public static void main(String[] args) {
    threeEach();
    threads();
    years();
    strengths();
    toldOtherwise();
    fits();
    least();
    greatest();
    ask();
    leaves();
    laws();
    by();
    law();
    Bench.finish("SeenEdgesTest", 48, 55);
  }

  /** What all five answer of slot 0. */
  private static void five(Bench x, int thread, long... due) {
    for (int i = 0; i < 5; i++) x.due(FIVE[i] + "(0, " + thread + ")", due[i]);
  }

  private static void noneSuch(Bench x) {
    for (String name : FIVE) x.refused(name + "(0, 0)", -2);
    x.refused("laws(0)", -2);
  }

  // ---- term VII

  private static void threeEach() {
    Bench.says("VII", "SEEN: a SLOT's row, three numbers each");
    for (int n = 0; n <= 60; n++) {
      Bench x = Bench.of(STILL);
      x.ask("row(0, 0, " + n + ")");
      // of thread 0 in year 0 a strength of 12, as often as it goes
      for (int i = 2; i < n; i += 3) x.ask("write(0, " + i + ", 12)");
      if (n == 0) five(x, 0, 60, 1, 60, 0, 1);
      else if (n % 3 == 0) five(x, 0, 1, 12, 12, -1, 1);
      else noneSuch(x);
      if (n % 3 == 0) x.due("laws(0)", 15);
    }
  }

  private static void threads() {
    Bench.says("VII", "a THREAD");
    Bench x = Bench.of(STILL);
    five(x.see(0, 0, 0, 0, 12), 0, 1, 12, 12, -1, 1);
    five(x.see(0, 0, 1, 0, 60), 0, 60, 1, 60, 0, 1);
    noneSuch(x.see(0, 0, 2, 0, 60));
    noneSuch(x.see(0, 0, -1, 0, 60));
    noneSuch(x.see(0, 0, 0, 0, 12, 2, 0, 60));
    noneSuch(x.see(0, 3, 1L << 32, 0, 12));
    noneSuch(x.see(0, 3, Long.MIN_VALUE, 0, 12));
    noneSuch(x.see(0, 3, Long.MAX_VALUE, 0, 12));
    five(x.see(0, 2, 1L << 32, 0, 12), 0, 1, 12, 12, -1, 1);
    Bench all = Bench.of("cloth years 1 law 0 odds 0;claim;" + "thread 0 to hem holds 5;".repeat(16));
    five(all.see(0, 0, 15, 0, 5), 15, 1, 5, 5, -1, 1);
    noneSuch(all.see(0, 0, 16, 0, 5));
  }

  private static void years() {
    Bench.says("VII", "a YEAR");
    Bench x = Bench.of(STILL);
    five(x.see(0, 0, 0, 0, 12), 0, 1, 12, 12, -1, 1);
    five(x.see(0, 0, 0, 2, 12), 0, 1, 12, 12, -1, 1);
    noneSuch(x.see(0, 0, 0, 3, 12));
    noneSuch(x.see(0, 0, 0, -1, 12));
    noneSuch(x.see(0, 3, 0, 1L << 32, 12));
    noneSuch(x.see(0, 3, 0, Long.MIN_VALUE, 12));
    Bench far = Bench.of("cloth years 12 law 0 odds 0;claim;thread 0 to hem holds 5;");
    five(far.see(0, 0, 0, 12, 5), 0, 1, 5, 5, -1, 1);
    noneSuch(far.see(0, 0, 0, 13, 5));
  }

  private static void strengths() {
    Bench.says("VII", "its STRENGTH (0 .. 99)");
    Bench x = Bench.of(STILL);
    five(x.see(0, 0, 0, 0, 0), 0, 0, -1, -1, -1, 0);
    five(x.see(0, 0, 0, 0, 99), 0, 0, -1, -1, -1, 0);
    noneSuch(x.see(0, 0, 0, 0, -1));
    noneSuch(x.see(0, 0, 0, 0, 100));
    noneSuch(x.see(0, 0, 0, 0, 127));
    noneSuch(x.see(0, 0, 0, 0, 128));
    noneSuch(x.see(0, 3, 0, 0, 1L << 32 | 12));
    noneSuch(x.see(0, 3, 0, 0, Long.MAX_VALUE));
    // 99 can be seen
    Bench y = Bench.of(STILL);
    y.ask("sews(0, 60, 0)");
    y.ask("sews(0, 60, 0)");
    five(y.see(0, 0, 0, 1, 99), 0, 60, 1, 60, 0, 1);
    Bench torn = Bench.of(STILL + "quarrel 0 by 90 at 0;quarrel 0 by 90 at 0;");
    // 45 each; from 54 on 45 are left for the second of them
    five(torn.see(0, 0, 0, 2, 0), 0, 53, 1, 53, 0, 1);
  }

  private static void toldOtherwise() {
    Bench.says("VII", "one THREAD was told otherwise (1 .. 60), all else as now");
    Bench x = Bench.of(STILL);
    five(x.see(0, 0, 0, 0, 1), 0, 1, 1, 1, -1, 1);
    five(x.see(0, 0, 0, 0, 60), 0, 1, 60, 60, -1, 1);
    five(x.see(0, 0, 0, 0, 61), 0, 0, -1, -1, -1, 0);
    // the other one is as told
    five(x.see(0, 0, 1, 0, 59), 0, 0, -1, -1, -1, 0);
    five(x.see(0, 0, 1, 0, 60, 0, 2, 33), 0, 1, 33, 33, -1, 1);
    x.due("strength(0, 0)", 12).due("thread(0, 2)", 12);
    // acts are as now, and the law
    x.ask("sews(0, 2, 1)");
    five(x.see(0, 0, 0, 2, 33), 0, 1, 31, 31, -1, 1);
    five(x.see(0, 0, 0, 2, 2), 0, 0, -1, -1, -1, 0);
    x.ask("anew()");
    five(x, 0, 1, 2, 2, -1, 1);
  }

  // ---- promises 48 to 52

  /** Slots of all kinds that are refused, by one of the five. */
  private static void refusals(String name) {
    Bench x = Bench.of(WORN);
    x.ask("row(1, 0, 3)");
    x.beyond(name + "(%, 0)", -2, 4).beyond(name + "(1, %)", -2, 1).beyond(name + "(0, %)", -2, 1);
    x.refused(name + "(4, 1)", -2);
    for (int slot : new int[] {0, 2, 3}) x.refused(name + "(" + slot + ", 0)", -6);
    x.refused("write(1, 2, 100)", 0).refused(name + "(1, 0)", -2);
    x.refused("write(1, 2, 0)", 0);
    x.unmoved();
    Bench.of(BARE).see(0, 0).due(name + "(0, 0)", -2).due(name + "(1, 0)", -2);
    new Bench().see(0, 0).due(name + "(0, 0)", -2).due(name + "(1, 0)", -2);
  }

  private static void fits() {
    Bench.says(48, "SEEN (VII): how many STRENGTHS (1 .. 60) a THREAD can have been told by a SLOT's row.");
    Bench x = Bench.of(WORN);
    x.see(0, 0).due("fits(0, 0)", 60);
    x.see(1, 1, 0, 2, 0).due("fits(1, 0)", 10);
    x.see(2, 2, 0, 2, 9).due("fits(2, 0)", 1);
    x.see(3, 3, 0, 2, 99).due("fits(3, 0)", 0);
    Bench.says(48, "-2: there is no such SLOT, THREAD, a number is none such (asked last), not three each; "
        + "-6: it has nothing.");
    refusals("fits");
    x.see(0, 0, 0, 2, 9, 0).due("fits(0, 0)", -2);
    x.see(0, 0, 0, 2).due("fits(0, 0)", -2);
  }

  private static void least() {
    Bench.says(49, "The least of these.");
    Bench x = Bench.of(WORN);
    x.see(0, 0).due("least(0, 0)", 1);
    // below 10 it tears in year 0, with 10 in year 1
    x.see(0, 0, 0, 2, 0).due("least(0, 0)", 1);
    x.see(0, 0, 0, 2, 0, 0, 1, 8).due("least(0, 0)", 10);
    x.see(0, 0, 0, 1, 58).due("least(0, 0)", 60);
    Bench.says(49, "NONE: there is none; -2, -6 likewise.");
    x.see(0, 0, 0, 1, 59).due("least(0, 0)", -1);
    refusals("least");
  }

  private static void greatest() {
    Bench.says(50, "The greatest.");
    Bench x = Bench.of(WORN);
    x.see(0, 0).due("greatest(0, 0)", 60);
    x.see(0, 0, 0, 2, 0).due("greatest(0, 0)", 10);
    x.see(0, 0, 0, 0, 1).due("greatest(0, 0)", 1);
    Bench.says(50, "NONE, -2, -6 likewise.");
    x.see(0, 0, 0, 1, 59).due("greatest(0, 0)", -1);
    refusals("greatest");
  }

  private static void ask() {
    Bench.says(51, "The YEAR of which to know its STRENGTH leaves fewest of these at worst, if fewer than now, the first of "
        + "several.");
    Bench x = Bench.of(WORN);
    x.see(0, 0).due("ask(0, 0)", 0);
    // two fit: 1 and 2
    Bench two = Bench.of("cloth years 2 law 0 odds 0;claim;thread 0 to hem holds 9;quarrel 0 by 3 at 0;");
    two.see(0, 0, 0, 1, 0).due("fits(0, 0)", 2).due("least(0, 0)", 1).due("greatest(0, 0)", 2).due("ask(0, 0)", 0);
    two.due("leaves(0, 0)", 1);
    Bench.says(51, "NONE: none; -2, -6 likewise.");
    two.see(0, 0, 0, 1, 3).due("fits(0, 0)", 1).due("ask(0, 0)", -1);
    two.see(0, 0, 0, 1, 99).due("fits(0, 0)", 0).due("ask(0, 0)", -1);
    refusals("ask");
  }

  private static void leaves() {
    Bench.says(52, "How many it leaves at worst (as now without).");
    Bench x = Bench.of(WORN);
    x.see(0, 0).due("leaves(0, 0)", 1);
    x.see(0, 0, 0, 2, 9).due("leaves(0, 0)", 1);
    x.see(0, 0, 0, 2, 99).due("leaves(0, 0)", 0);
    Bench.says(52, "-2, -6 likewise.");
    refusals("leaves");
  }

  // ---- promises 53 to 55

  private static void laws() {
    Bench.says(53, "LAWS (0 .. 3) by which it is as such a row tells, as bits.");
    // by laws 0 to 3 the shares are 10 and 10, 0 and 20, 5 and 15, 10 and 10
    Bench x = Bench.of("cloth years 1 law 0 odds 0;claim;thread 0 to hem holds 10;thread 0 to hem holds 30;"
        + "quarrel 0 by 20 at 0;");
    x.see(0, 0).due("laws(0)", 15);
    x.see(1, 1, 0, 1, 8).due("laws(1)", 9);
    x.see(2, 2, 0, 1, 10).due("laws(2)", 2);
    x.see(3, 3, 1, 1, 27).due("laws(3)", 4);
    x.see(0, 0, 0, 1, 7).due("laws(0)", 0);
    x.see(0, 0, 0, 0, 10, 1, 0, 30).due("laws(0)", 15).due("count(1)", 0);
    Bench.says(53, "-2 (THREAD aside; no CLOTH), -6 likewise.");
    Bench y = Bench.of(WORN);
    y.ask("row(1, 0, 3)");
    y.beyond("laws(%)", -2, 4).refused("laws(0)", -6).refused("laws(2)", -6).refused("laws(3)", -6);
    y.unmoved();
    // a cloth without threads: a row of none is as it tells, and no other is one
    Bench bare = Bench.of(BARE);
    bare.see(0, 0).due("laws(0)", 15);
    bare.see(0, 0, 0, 0, 0).due("laws(0)", -2).due("laws(1)", -6);
    new Bench().due("laws(0)", -2).see(0, 0).due("laws(0)", -2).due("laws(4)", -2);
  }

  private static void by() {
    Bench.says(54, "CLAIMS that are HUNG in the last YEAR by a LAW in place of the one told, as bits.");
    // the thread of claim 0 has 6, 0, 2, 6
    Bench x = Bench.of("cloth years 1 law 3 odds 0;claim;claim;thread 1 to 0 holds 12;thread 1 to hem holds 50;"
        + "thread 0 to hem holds 5;quarrel 1 by 12 at 0;");
    int[] due = {2, 3, 3, 2};
    for (int law = 0; law < 4; law++) x.due("by(" + law + ")", due[law]);
    x.due("hung(1)", 2).due("count(1)", 3);
    // acts are as ever
    x.due("sews(2, 1, 0)", 3).due("by(0)", 3).due("by(3)", 3);
    Bench.of(BARE).due("by(0)", 0).due("by(3)", 0).due("by(4)", -2);
    Bench.says(54, "-2: there is none such (0 .. 3), no CLOTH.");
    x.beyond("by(%)", -2, 4).unmoved();
    new Bench().due("by(0)", -2);
  }

  private static void law() {
    Bench.says(55, "The LAW by which most are, the least of several.");
    Bench.of("cloth years 1 law 3 odds 0;claim;claim;thread 1 to 0 holds 12;thread 1 to hem holds 50;"
        + "thread 0 to hem holds 5;quarrel 1 by 12 at 0;").due("law()", 1);
    // none hangs by any
    Bench.of("cloth years 1 law 3 odds 0;claim;").due("law()", 0);
    Bench.of(BARE.replace("law 0", "law 2")).due("law()", 0);
    // 40 and 20 bear 60 by law 2 alone
    Bench.of("cloth years 1 law 0 odds 0;claim;thread 0 to hem holds 40;thread 0 to hem holds 20;quarrel 0 by 60 at 0;")
        .due("law()", 2).due("by(0)", 0).due("by(1)", 0).due("by(2)", 1).due("by(3)", 0);
    // the two strongest bear 41; a third thread with a share would tear the weak one to which it leads
    Bench.of("cloth years 1 law 0 odds 0;claim;claim;thread 1 to hem holds 21;thread 1 to hem holds 20;"
        + "thread 1 to 0 holds 19;thread 0 to hem holds 1;quarrel 1 by 41 at 0;").due("by(3)", 3).due("law()", 3);
    Bench.says(55, "-2: there is no CLOTH.");
    new Bench().due("law()", -2);
  }
}
