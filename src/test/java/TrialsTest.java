/** Promises 34 to 47: pulls that are tried, words, cuts, what is left out. */
public final class TrialsTest {
  private static final String ONE = "cloth years 2 law 0 odds 5;claim;thread 0 to hem holds 10;quarrel 0 by 11 at 0;";
  /** By law 1 claim 1 leans on claim 0 by thread 1, which tears thread 0. */
  private static final String HARM = "cloth years 1 law 1 odds 5;claim;claim;thread 0 to hem holds 5;"
      + "thread 1 to 0 holds 10;thread 1 to hem holds 10;quarrel 1 by 8 at 0;";

  public static void main(String[] args) {
    tries();
    gates();
    words();
    cuts();
    leftOut();
    wrongs();
    Due.finish("TrialsTest");
  }

  private static void tries() {
    ArgumentMender x = Due.cloth(ONE);
    Due.due(34, "tries(0, 10, 0)", x.tries(0, 10, 0), 0);
    Due.due(34, "tries(0, 11, 0)", x.tries(0, 11, 0), 1);
    Due.due(34, "tries(0, 200, 0)", x.tries(0, 200, 0), 1);
    Due.due(34, "tries(0, 200, 2), torn ahead of it", x.tries(0, 200, 2), 0);
    Due.due(35, "would(0, 10, 0, 0)", x.would(0, 10, 0, 0), 10);
    Due.due(35, "would(0, 11, 0, 0), in the last pull", x.would(0, 11, 0, 0), 0);
    Due.due(36, "lets(0, 10, 0)", x.lets(0, 10, 0), 0);
    Due.due(36, "lets(0, 11, 0)", x.lets(0, 11, 0), 11);
    Due.due(36, "lets(0, 1, 1)", x.lets(0, 1, 1), 1);
    Due.due(9, "nothing stays of it", x.strength(0, 0), 10);
    Due.due(14, "nothing stays of it", x.hung(0), 1);
    x.sews(0, 20, 0);
    Due.due(34, "ahead of words of the year", x.tries(0, 11, 0), 1);
    ArgumentMender y = Due.cloth(HARM);
    Due.due(34, "tries(1, 8, 0)", y.tries(1, 8, 0), 1);
    Due.due(35, "would(1, 8, 0, 1)", y.would(1, 8, 0, 1), 8);
    Due.due(35, "would(1, 8, 0, 0)", y.would(1, 8, 0, 0), 0);
    Due.due(36, "lets(1, 8, 0)", y.lets(1, 8, 0), 8);
  }

  private static void gates() {
    ArgumentMender x = Due.cloth(ONE);
    Due.due(37, "gate(0, 0)", x.gate(0, 0), 11);
    Due.due(37, "gate(0, 1), a hole", x.gate(0, 1), 1);
    Due.due(39, "bursts(0, 0)", x.bursts(0, 0), 11);
    Due.due(39, "bursts(0, 2)", x.bursts(0, 2), 1);
    Due.due(38, "soft(0)", x.soft(0), 0);
    ArgumentMender y = Due.cloth(HARM);
    Due.due(37, "gate(1, 0)", y.gate(1, 0), 6);
    Due.due(37, "gate(0, 0)", y.gate(0, 0), 6);
    Due.due(38, "soft(0), the first of several", y.soft(0), 0);
    Due.due(38, "soft(1)", y.soft(1), 0);
    Due.due(39, "bursts(1, 0)", y.bursts(1, 0), 6);
    // 16 threads of 60 share 200 without harm
    ArgumentMender z = Due.cloth("cloth years 1 law 0 odds 5;claim;claim;claim;thread 2 to hem holds 1;"
        + "thread 0 to hem holds 60;".repeat(4) + "thread 1 to hem holds 60;".repeat(4));
    Due.due(37, "gate(0, 0), by none", z.gate(0, 0), -1);
    Due.due(39, "bursts(0, 0), by none", z.bursts(0, 0), -1);
    Due.due(38, "soft(0)", z.soft(0), 2);
    ArgumentMender none = Due.cloth("cloth years 1 law 0 odds 5;claim;" + "thread 0 to hem holds 60;".repeat(4));
    Due.due(38, "soft(0), none has one", none.soft(0), -1);
    // one tears by 3, and the other one holds by 60
    ArgumentMender w = Due.cloth("cloth years 1 law 0 odds 5;claim;thread 0 to hem holds 60;thread 0 to hem holds 1;");
    Due.due(37, "gate(0, 0), a tear", w.gate(0, 0), 4);
    Due.due(39, "bursts(0, 0), through", w.bursts(0, 0), 61);
  }

  private static void words() {
    ArgumentMender x = Due.cloth(ONE);
    Due.due(40, "word(0, 0)", x.word(0, 0), 1);
    Due.due(42, "mend(0)", x.mend(0), 1);
    Due.due(41, "darn(0)", x.darn(0), 0);
    x.sews(0, 1, 0);
    Due.due(40, "word(0, 0), it need not", x.word(0, 0), 0);
    // 60 and 48: 108, 90 hold by turns what 90 pull
    ArgumentMender y = Due.cloth("cloth years 2 law 0 odds 5;claim;thread 0 to hem holds 60;quarrel 0 by 90 at 0;"
        + "quarrel 0 by 90 at 1;");
    Due.due(40, "word(0, 0), above 99 together", y.word(0, 0), 48);
    y.sews(0, 1, 0);
    Due.due(40, "word(0, 0), 99 by a word let in", y.word(0, 0), -1);
    Due.due(41, "darn(0), none has one", y.darn(0), -1);
    Due.due(42, "mend(0), by none", y.mend(0), -1);
    ArgumentMender at60 = Due.cloth("cloth years 1 law 0 odds 5;claim;thread 0 to hem holds 30;quarrel 0 by 90 at 0;");
    Due.due(40, "word(0, 0), 60", at60.word(0, 0), 60);
    at60.rate(0, 29);
    Due.due(40, "word(0, 0), 61 would do", at60.word(0, 0), -1);
    ArgumentMender z = Due.cloth(HARM);
    Due.due(40, "word(0, 0)", z.word(0, 0), 3);
    Due.due(40, "word(1, 0), by none", z.word(1, 0), -1);
    Due.due(40, "word(2, 0), the strongest then", z.word(2, 0), 1);
    Due.due(41, "darn(0), the least", z.darn(0), 2);
    Due.due(41, "darn(1), 0 by each, the first", z.darn(1), 0);
    Due.due(42, "mend(2)", z.mend(2), 1);
    Due.due(42, "mend(0)", z.mend(0), 3);
    ArgumentMender none = Due.cloth("cloth years 1 law 0 odds 5;claim;claim;thread 0 to hem holds 30;");
    Due.due(41, "darn(1) of a claim without threads", none.darn(1), -1);
    Due.due(42, "mend(0)", none.mend(0), -1);
    Due.due(41, "darn(0)", none.darn(0), 0);
  }

  private static void cuts() {
    // two ways share no thread, though the first one found may bar the other
    ArgumentMender x = Due.cloth("cloth years 1 law 0 odds 0;claim;claim;claim;claim;thread 3 to 2 holds 9;"
        + "thread 2 to 1 holds 9;thread 1 to hem holds 9;thread 3 to 1 holds 9;thread 2 to hem holds 9;"
        + "thread 1 to 0 holds 9;");
    Due.due(43, "cut(3, 0)", x.cut(3, 0), 2);
    Due.due(43, "cut(2, 0)", x.cut(2, 0), 2);
    Due.due(43, "cut(1, 0)", x.cut(1, 0), 1);
    Due.due(43, "cut(0, 0)", x.cut(0, 0), 0);
    Due.due(44, "keys(3, 0)", x.keys(3, 0), 0);
    Due.due(44, "keys(1, 0)", x.keys(1, 0), 4);
    Due.due(44, "keys(0, 0)", x.keys(0, 0), 0);
    ArgumentMender y = Due.cloth("cloth years 2 law 0 odds 0;claim;claim;claim;thread 0 to hem holds 9;"
        + "thread 1 to 0 holds 9;thread 2 to 1 holds 9;thread 0 to hem holds 3;quarrel 0 by 8 at 0;");
    Due.due(43, "cut(2, 0)", y.cut(2, 0), 1);
    Due.due(43, "cut(0, 0)", y.cut(0, 0), 2);
    Due.due(43, "cut(0, 1), one torn", y.cut(0, 1), 1);
    Due.due(44, "keys(2, 0)", y.keys(2, 0), 6);
    Due.due(44, "keys(2, 1)", y.keys(2, 1), 7);
    ArgumentMender all = Due.cloth("cloth years 1 law 0 odds 0;claim;" + "thread 0 to hem holds 9;".repeat(16));
    Due.due(43, "cut(0, 0), sixteen", all.cut(0, 0), 16);
  }

  private static void leftOut() {
    ArgumentMender x = Due.cloth(HARM);
    Due.due(45, "blame()", x.blame(), 0);
    Due.due(46, "dear()", x.dear(), 2);
    Due.due(47, "worse()", x.worse(), 1);
    ArgumentMender y = Due.cloth("cloth years 2 law 0 odds 0;claim;thread 0 to hem holds 9;quarrel 0 by 5 at 0;");
    Due.due(45, "blame(), none", y.blame(), -1);
    Due.due(46, "dear()", y.dear(), 0);
    Due.due(47, "worse(), none", y.worse(), -1);
    y.sews(0, 5, 1);
    Due.due(46, "dear(), a word to it does nothing", y.dear(), 0);
    // each of two quarrels alone is too many: without one the other one tears
    ArgumentMender two = Due.cloth("cloth years 2 law 0 odds 0;claim;claim;thread 0 to hem holds 9;"
        + "thread 1 to hem holds 9;quarrel 0 by 10 at 1;quarrel 1 by 10 at 0;");
    Due.due(45, "blame(), the first of several", two.blame(), 0);
    Due.due(46, "dear(), not fewer than now", two.dear(), -1);
    ArgumentMender same = Due.cloth("cloth years 1 law 0 odds 0;claim;claim;thread 0 to hem holds 9;"
        + "thread 1 to hem holds 9;");
    Due.due(46, "dear(), the first of several", same.dear(), 0);
    ArgumentMender most = Due.cloth("cloth years 1 law 0 odds 0;claim;claim;thread 1 to 0 holds 9;"
        + "thread 0 to hem holds 9;");
    Due.due(46, "dear(), fewest", most.dear(), 1);
  }

  private static void wrongs() {
    ArgumentMender x = Due.cloth(ONE);
    int[] bad = {-1, 3, Integer.MIN_VALUE, Integer.MAX_VALUE};
    for (int i : bad) {
      Due.due(34, "tries", x.tries(i, 1, 0), -2);
      Due.due(34, "tries", x.tries(0, 1, i), -2);
      Due.due(35, "would", x.would(i, 1, 0, 0), -2);
      Due.due(35, "would", x.would(0, 1, i, 0), -2);
      Due.due(35, "would", x.would(0, 1, 0, i), -2);
      Due.due(36, "lets", x.lets(i, 1, 0), -2);
      Due.due(36, "lets", x.lets(0, 1, i), -2);
      Due.due(37, "gate", x.gate(i, 0), -2);
      Due.due(37, "gate", x.gate(0, i), -2);
      Due.due(38, "soft", x.soft(i), -2);
      Due.due(39, "bursts", x.bursts(i, 0), -2);
      Due.due(39, "bursts", x.bursts(0, i), -2);
      Due.due(40, "word", x.word(i, 0), -2);
      Due.due(40, "word", x.word(0, i), -2);
      Due.due(41, "darn", x.darn(i), -2);
      Due.due(42, "mend", x.mend(i), -2);
      Due.due(43, "cut", x.cut(i, 0), -2);
      Due.due(43, "cut", x.cut(0, i), -2);
      Due.due(44, "keys", x.keys(i, 0), -2);
      Due.due(44, "keys", x.keys(0, i), -2);
    }
    for (int n : new int[] {0, -1, 201}) {
      Due.due(34, "tries(0, " + n + ", 0)", x.tries(0, n, 0), -2);
      Due.due(35, "would(0, " + n + ", 0, 0)", x.would(0, n, 0, 0), -2);
      Due.due(36, "lets(0, " + n + ", 0)", x.lets(0, n, 0), -2);
    }
    ArgumentMender none = new ArgumentMender();
    Due.due(38, "soft(0) without a cloth", none.soft(0), -2);
    Due.due(45, "blame() without a cloth", none.blame(), -2);
    Due.due(46, "dear() without a cloth", none.dear(), -2);
    Due.due(47, "worse() without a cloth", none.worse(), -2);
  }
}
