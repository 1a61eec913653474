/** Promises 9 to 33: strengths, holes and what hangs year by year, quarrel by quarrel. */
public final class YearsTest {
  /** Nothing tears in year 0; in year 1 both threads of claim 1 do; the last quarrel does not come. */
  private static final String TWO = "cloth years 3 law 0 odds 5;claim;claim;thread 0 to hem holds 10;"
      + "thread 1 to 0 holds 5;thread 1 to hem holds 4;quarrel 1 by 8 at 0;quarrel 1 by 12 at 1;quarrel 0 by 3 at 3;";

  public static void main(String[] args) {
    ArgumentMender x = Due.cloth(TWO);
    strengths(x);
    claims(x);
    together(x);
    quarrels(x);
    wholeCloth(x);
    wrongs(x);
    emptyCloth();
    words();
    sharing();
    backAgain();
    Due.finish("YearsTest");
  }

  private static void strengths(ArgumentMender x) {
    int[][] rows = {{10, 5, 4}, {10, 5, 4}, {10, 0, 0}, {10, 0, 0}};
    for (int y = 0; y < 4; y++) {
      for (int t = 0; t < 3; t++) Due.due(9, "strength(" + t + ", " + y + ")", x.strength(t, y), rows[y][t]);
    }
    Due.due(10, "torn(1)", x.torn(1), 0);
    Due.due(10, "torn(2)", x.torn(2), 6);
    Due.due(10, "torn(3)", x.torn(3), 6);
    Due.due(11, "tears(0)", x.tears(0), -1);
    Due.due(11, "tears(1)", x.tears(1), 2);
  }

  private static void claims(ArgumentMender x) {
    Due.due(12, "holes(1)", x.holes(1), 0);
    Due.due(12, "holes(2)", x.holes(2), 2);
    Due.due(13, "hole(0)", x.hole(0), -1);
    Due.due(13, "hole(1)", x.hole(1), 2);
    Due.due(14, "hung(1)", x.hung(1), 3);
    Due.due(14, "hung(2)", x.hung(2), 1);
    Due.due(15, "falls(0)", x.falls(0), -1);
    Due.due(15, "falls(1)", x.falls(1), 2);
    Due.due(21, "frail()", x.frail(), 2);
    Due.due(20, "bare(0)", x.bare(0), 1);
    Due.due(20, "bare(2)", x.bare(2), 1);
    Due.due(22, "stuff(1, 0)", x.stuff(1, 0), 9);
    Due.due(22, "stuff(1, 2)", x.stuff(1, 2), 0);
    Due.due(22, "stuff(0, 3)", x.stuff(0, 3), 10);
    Due.due(23, "steps(1, 0)", x.steps(1, 0), 1);
    Due.due(23, "steps(0, 3)", x.steps(0, 3), 1);
    Due.due(23, "steps(1, 2)", x.steps(1, 2), -1);
    // a claim without threads is a hole from the first; one that hangs from it is none, and does not hang
    ArgumentMender z = Due.cloth("cloth years 1 law 0 odds 0;claim;claim;claim;thread 1 to 0 holds 3;"
        + "thread 2 to 1 holds 3;");
    Due.due(12, "holes(0), none told", z.holes(0), 1);
    Due.due(13, "hole(0), none told", z.hole(0), 0);
    Due.due(13, "hole(1)", z.hole(1), -1);
    Due.due(14, "hung(0), over a hole", z.hung(0), 0);
    Due.due(15, "falls(2)", z.falls(2), 0);
    Due.due(20, "bare(0)", z.bare(0), 6);
    Due.due(21, "frail()", z.frail(), 0);
    Due.due(23, "steps(2, 0)", z.steps(2, 0), -1);
    ArgumentMender far = Due.cloth("cloth years 1 law 0 odds 0;claim;claim;claim;claim;thread 0 to hem holds 3;"
        + "thread 1 to 0 holds 3;thread 2 to 1 holds 3;thread 3 to 2 holds 3;thread 3 to 1 holds 3;");
    Due.due(23, "steps(3, 0)", far.steps(3, 0), 3);
    Due.due(23, "steps(2, 1)", far.steps(2, 1), 3);
  }

  private static void together(ArgumentMender x) {
    Due.due(16, "sum(0)", x.sum(0), 19);
    Due.due(16, "sum(3)", x.sum(3), 10);
    Due.due(17, "strongest(0)", x.strongest(0), 0);
    Due.due(18, "weakest(0)", x.weakest(0), 2);
    Due.due(18, "weakest(2)", x.weakest(2), 0);
    Due.due(19, "loses(0)", x.loses(0), 0);
    Due.due(19, "loses(1)", x.loses(1), 9);
    Due.due(19, "loses(3)", x.loses(3), -100000);
    ArgumentMender same = Due.cloth("cloth years 1 law 1 odds 0;claim;thread 0 to hem holds 4;"
        + "thread 0 to hem holds 9;thread 0 to hem holds 9;thread 0 to hem holds 4;quarrel 0 by 90 at 0;");
    Due.due(17, "strongest, the first of several", same.strongest(0), 1);
    Due.due(18, "weakest, the first of several", same.weakest(0), 0);
    Due.due(17, "strongest of torn ones", same.strongest(1), 0);
    Due.due(18, "weakest, all torn", same.weakest(1), -1);
    Due.due(25, "pulls, one thread torn by each", same.pulls(0), 5);
  }

  private static void quarrels(ArgumentMender x) {
    Due.due(24, "has(0, 1)", x.has(0, 1), 4);
    Due.due(24, "has(0, 0)", x.has(0, 0), 4);
    Due.due(24, "has(1, 1)", x.has(1, 1), 0);
    Due.due(24, "has(2, 0)", x.has(2, 0), -1);
    Due.due(25, "pulls(0)", x.pulls(0), 1);
    Due.due(25, "pulls(1)", x.pulls(1), 2);
    Due.due(25, "pulls(2)", x.pulls(2), 0);
    Due.due(26, "rips(0)", x.rips(0), 0);
    Due.due(26, "rips(1)", x.rips(1), 6);
    Due.due(26, "rips(2)", x.rips(2), 0);
    Due.due(27, "through(0)", x.through(0), 0);
    Due.due(27, "through(1)", x.through(1), 12);
    Due.due(27, "through(2)", x.through(2), -1);
    Due.due(28, "hem(0)", x.hem(0), 8);
    Due.due(28, "hem(1)", x.hem(1), 0);
    Due.due(28, "hem(2)", x.hem(2), -1);
  }

  private static void wholeCloth(ArgumentMender x) {
    Due.due(29, "loud()", x.loud(), 2);
    Due.due(30, "worst()", x.worst(), 1);
    Due.due(31, "bears(0)", x.bears(0), 4);
    Due.due(31, "bears(2)", x.bears(2), 4);
    Due.due(32, "worn(0)", x.worn(0), 0);
    Due.due(33, "idle()", x.idle(), 0);
    // a second thread that never has a share; a part of the load lost; words and wear
    ArgumentMender y = Due.cloth("cloth years 2 law 0 odds 0;claim;claim;thread 1 to hem holds 50;"
        + "thread 1 to 0 holds 50;thread 1 to hem holds 3;quarrel 1 by 2 at 0;quarrel 1 by 31 at 1;");
    Due.due(33, "idle()", y.idle(), 4);
    Due.due(28, "hem(0)", y.hem(0), 1);
    Due.due(27, "through(0), a part", y.through(0), 1);
    // 11, 10, 10: the third tears; then 16, 15
    Due.due(26, "rips(1)", y.rips(1), 4);
    Due.due(24, "has(1, 0)", y.has(1, 0), 16);
    Due.due(24, "has(1, 1)", y.has(1, 1), 15);
    Due.due(29, "loud(), both", y.loud(), 3);
    Due.due(30, "worst()", y.worst(), 1);
    Due.due(31, "bears(0)", y.bears(0), 17);
    Due.due(32, "worn(0)", y.worn(0), 3);
    Due.due(32, "worn(1)", y.worn(1), 3);
    Due.due(32, "worn(2), torn aside", y.worn(2), 0);
    Due.due(9, "strength(0, 2)", y.strength(0, 2), 47);
    y.quarrels(1, 11, 1);
    // of an act: 6 and 5 more
    Due.due(31, "bears(0), of acts too", y.bears(0), 23);
    Due.due(32, "worn(1), of acts too", y.worn(1), 4);
    Due.due(29, "loud(), told ones alone", y.loud(), 3);
    ArgumentMender twice = Due.cloth("cloth years 2 law 0 odds 0;claim;thread 0 to hem holds 1;thread 0 to hem holds 1;"
        + "quarrel 0 by 1 at 0;quarrel 0 by 3 at 0;quarrel 0 by 3 at 1;");
    Due.due(30, "worst()", twice.worst(), 1);
    ArgumentMender none = Due.cloth("cloth years 2 law 0 odds 0;claim;thread 0 to hem holds 9;quarrel 0 by 9 at 0;");
    Due.due(30, "worst(), none", none.worst(), -1);
    Due.due(21, "frail(), never", none.frail(), -1);
    // in an order that goes by years, not by their numbers
    ArgumentMender order = Due.cloth("cloth years 2 law 0 odds 0;claim;thread 0 to hem holds 9;"
        + "quarrel 0 by 9 at 1;quarrel 0 by 5 at 0;");
    Due.due(26, "rips(0), behind the other one", order.rips(0), 1);
    Due.due(26, "rips(1)", order.rips(1), 0);
  }

  private static void wrongs(ArgumentMender x) {
    int[] bad = {-1, 4, Integer.MIN_VALUE, Integer.MAX_VALUE};
    for (int y : bad) {
      Due.due(9, "strength(0, " + y + ")", x.strength(0, y), -2);
      Due.due(10, "torn", x.torn(y), -2);
      Due.due(12, "holes", x.holes(y), -2);
      Due.due(14, "hung", x.hung(y), -2);
      Due.due(16, "sum", x.sum(y), -2);
      Due.due(17, "strongest", x.strongest(y), -2);
      Due.due(18, "weakest", x.weakest(y), -2);
      Due.due(19, "loses", x.loses(y), -100000);
      Due.due(20, "bare", x.bare(y), -2);
      Due.due(22, "stuff", x.stuff(0, y), -2);
      Due.due(23, "steps", x.steps(0, y), -2);
      Due.due(9, "strength of no thread", x.strength(y, 0), -2);
      Due.due(11, "tears", x.tears(y), -2);
      Due.due(13, "hole", x.hole(y), -2);
      Due.due(15, "falls", x.falls(y), -2);
      Due.due(22, "stuff of no claim", x.stuff(y, 0), -2);
      Due.due(23, "steps of no claim", x.steps(y, 0), -2);
      Due.due(24, "has of no quarrel", x.has(y, 0), -2);
      Due.due(24, "has of no thread", x.has(0, y), -2);
      Due.due(24, "has, -2 ahead of NONE", x.has(2, y), -2);
      Due.due(25, "pulls", x.pulls(y), -2);
      Due.due(26, "rips", x.rips(y), -2);
      Due.due(27, "through", x.through(y), -2);
      Due.due(28, "hem", x.hem(y), -2);
      Due.due(31, "bears", x.bears(y), -2);
      Due.due(32, "worn", x.worn(y), -2);
    }
    Due.due(15, "falls(2)", x.falls(2), -2);
    Due.due(11, "tears(3)", x.tears(3), -2);
    Due.due(25, "pulls(3)", x.pulls(3), -2);
    ArgumentMender none = new ArgumentMender();
    Due.due(29, "loud() without a cloth", none.loud(), -2);
    Due.due(30, "worst() without a cloth", none.worst(), -2);
    Due.due(33, "idle() without a cloth", none.idle(), -2);
    Due.due(21, "frail() without a cloth", none.frail(), -2);
  }

  private static void emptyCloth() {
    ArgumentMender x = Due.cloth("cloth years 2 law 0 odds 0;");
    Due.due(17, "strongest without threads", x.strongest(2), -1);
    Due.due(18, "weakest without threads", x.weakest(2), -1);
    Due.due(16, "sum without threads", x.sum(2), 0);
    Due.due(21, "frail without claims", x.frail(), -1);
    Due.due(33, "idle without threads", x.idle(), 0);
    Due.due(19, "loses(1)", x.loses(1), 0);
    Due.due(10, "torn(3)", x.torn(3), -2);
  }

  private static void words() {
    ArgumentMender x = Due.cloth("cloth years 3 law 0 odds 0;claim;thread 0 to hem holds 10;quarrel 0 by 11 at 0;");
    Due.due(9, "strength(0, 1)", x.strength(0, 1), 0);
    x.sews(0, 7, 1);
    Due.due(9, "a word let in to a torn thread", x.strength(0, 2), 7);
    Due.due(9, "in its own year not yet", x.strength(0, 1), 0);
    Due.due(19, "loses(1), below 0", x.loses(1), -7);
    Due.due(11, "tears(0)", x.tears(0), 1);
    Due.due(14, "hung(2)", x.hung(2), 1);
    x.anew();
    x.sews(0, 1, 0);
    Due.due(9, "words ahead of quarrels: 11 - 2", x.strength(0, 1), 9);
    x.anew();
    x.sews(0, 60, 1);
    x.sews(0, 60, 1);
    Due.due(9, "99 at most", x.strength(0, 2), 99);
    // quarrels told ahead of those of acts
    ArgumentMender y = Due.cloth("cloth years 1 law 0 odds 0;claim;thread 0 to hem holds 10;quarrel 0 by 10 at 0;");
    y.quarrels(0, 9, 0);
    Due.due(25, "the one told pulls first", y.rips(0), 0);
    Due.due(9, "then the other one tears", y.strength(0, 1), 0);
  }

  /** Laws of sharing (II), seen by would(). */
  private static void sharing() {
    String threads = "claim;thread 0 to hem holds 10;thread 0 to hem holds 20;thread 0 to hem holds 20;";
    int[][] due = {{3, 3, 2}, {0, 8, 0}, {1, 4, 3}, {0, 4, 4}};
    int[][] odd = {{3, 3, 3}, {0, 9, 0}, {1, 5, 3}, {0, 5, 4}};
    for (int law = 0; law < 4; law++) {
      ArgumentMender x = Due.cloth("cloth years 1 law " + law + " odds 0;" + threads);
      for (int t = 0; t < 3; t++) {
        Due.due(35, "law " + law + ", would(0, 8, 0, " + t + ")", x.would(0, 8, 0, t), due[law][t]);
        Due.due(35, "law " + law + ", would(0, 9, 0, " + t + ")", x.would(0, 9, 0, t), odd[law][t]);
      }
    }
    ArgumentMender alone = Due.cloth("cloth years 1 law 3 odds 0;claim;thread 0 to hem holds 10;");
    Due.due(35, "law 3, one alone", alone.would(0, 9, 0, 0), 9);
    ArgumentMender second = Due.cloth("cloth years 1 law 3 odds 0;claim;thread 0 to hem holds 10;"
        + "thread 0 to hem holds 10;thread 0 to hem holds 30;thread 0 to hem holds 5;");
    Due.due(35, "law 3, the first of the others", second.would(0, 9, 0, 0), 4);
    Due.due(35, "law 3, the strongest", second.would(0, 9, 0, 2), 5);
  }

  /** Lost in a first pull, but not in the last one: it does not go through. */
  private static void backAgain() {
    ArgumentMender x = Due.cloth("cloth years 1 law 0 odds 0;claim;claim;thread 1 to 0 holds 3;thread 1 to hem holds 50;"
        + "quarrel 1 by 10 at 0;");
    Due.due(25, "pulls(0)", x.pulls(0), 2);
    Due.due(27, "through(0), of the last pull", x.through(0), 0);
    Due.due(29, "loud(), of the last pull", x.loud(), 0);
    Due.due(28, "hem(0)", x.hem(0), 10);
    Due.due(24, "has(0, 1)", x.has(0, 1), 10);
    Due.due(39, "bursts(1, 0)", x.bursts(1, 0), 1);
    Due.due(37, "gate(1, 0), lost without a tear", x.gate(1, 0), 1);
  }
}
