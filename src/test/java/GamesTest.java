/** Promises 56 to 61, 66, 67: sets of threads, two quarrels, chance, evenings drawn. */
public final class GamesTest {
  private static final String ONE = "cloth years 2 law 0 odds 5;claim;thread 0 to hem holds 10;quarrel 0 by 11 at 0;";
  private static final String HARM = "cloth years 1 law 1 odds 5;claim;claim;thread 0 to hem holds 5;"
      + "thread 1 to 0 holds 10;thread 1 to hem holds 10;quarrel 1 by 8 at 0;";

  public static void main(String[] args) {
    worths();
    shares();
    rests();
    chances();
    draws();
    Due.finish("GamesTest");
  }

  private static void worths() {
    ArgumentMender x = Due.cloth(HARM);
    int[] due = {0, 1, 0, 0, 1, 2, 1, 1};
    for (int set = 0; set < 8; set++) Due.due(56, "worth(" + set + ")", x.worth(set), due[set]);
    Due.due(56, "worth(8)", x.worth(8), -2);
    Due.due(56, "worth(-1)", x.worth(-1), -2);
    x.sews(0, 9, 0);
    Due.due(56, "a word to a thread that is not there", x.worth(6), 1);
    Due.due(56, "worth(7)", x.worth(7), 2);
    ArgumentMender all = Due.cloth("cloth years 1 law 0 odds 0;claim;claim;" + "thread 0 to hem holds 9;".repeat(15)
        + "thread 1 to hem holds 9;");
    Due.due(56, "worth of the sixteenth", all.worth(32768), 1);
    Due.due(56, "worth of all", all.worth(65535), 2);
    Due.due(56, "worth(65536)", all.worth(65536), -2);
    Due.due(56, "worth(0) without threads", Due.cloth("cloth years 1 law 0 odds 0;").worth(0), 0);
    Due.due(56, "worth(1) without threads", Due.cloth("cloth years 1 law 0 odds 0;").worth(1), -2);
    Due.due(56, "worth(0) without a cloth", new ArgumentMender().worth(0), -2);
  }

  private static void share(ArgumentMender x, int thread, int above, int below) {
    Due.due(57, "share(" + thread + ", 0)", x.share(thread, 0), above);
    Due.due(57, "share(" + thread + ", 1)", x.share(thread, 1), below);
  }

  private static void shares() {
    ArgumentMender x = Due.cloth("cloth years 1 law 0 odds 0;claim;claim;thread 0 to hem holds 9;"
        + "thread 1 to 0 holds 9;thread 1 to hem holds 9;");
    share(x, 0, 7, 6);
    share(x, 1, 1, 6);
    share(x, 2, 2, 3);
    ArgumentMender y = Due.cloth(HARM);
    share(y, 1, -1, 2);
    ArgumentMender eight = Due.cloth("cloth years 1 law 0 odds 0;claim;" + "thread 0 to hem holds 9;".repeat(8));
    share(eight, 7, 1, 8);
    // the ninth is there always, so the rest add nothing
    ArgumentMender nine = Due.cloth("cloth years 1 law 0 odds 0;claim;" + "thread 0 to hem holds 9;".repeat(9));
    share(nine, 0, 0, 1);
    Due.due(57, "share(8, 0)", nine.share(8, 0), -1000);
    Due.due(57, "share(-1, 0)", nine.share(-1, 0), -1000);
    Due.due(57, "share(0, 2)", nine.share(0, 2), -1000);
    Due.due(57, "share(0, -1)", nine.share(0, -1), -1000);
    Due.due(57, "share(3, 0)", x.share(3, 0), -1000);
    Due.due(57, "share(0, 0) without a cloth", new ArgumentMender().share(0, 0), -1000);
    // known again behind a change
    eight.rate(0, 5);
    eight.quarrels(0, 90, 0);
    eight.quarrels(0, 90, 0);
    share(eight, 0, 0, 1);
  }

  private static void rests() {
    // alone each of them does no harm; the second to come tears
    ArgumentMender x = Due.cloth("cloth years 2 law 0 odds 5;claim;thread 0 to hem holds 20;quarrel 0 by 20 at 1;"
        + "quarrel 0 by 15 at 0;quarrel 0 by 1 at 5;");
    Due.due(59, "gets(0, 1, 0, 0)", x.gets(0, 1, 0, 0), -20);
    Due.due(59, "gets(0, 1, 0, 1)", x.gets(0, 1, 0, 1), 20);
    Due.due(59, "gets(0, 1, 1, 0)", x.gets(0, 1, 1, 0), 0);
    Due.due(59, "gets(1, 0, 0, 0)", x.gets(1, 0, 0, 0), 15);
    Due.due(59, "gets(1, 0, 1, 0)", x.gets(1, 0, 1, 0), 0);
    Due.due(59, "gets(2, 0, 0, 0), of a year there is not", x.gets(2, 0, 0, 0), 0);
    Due.due(58, "rests(0, 1), the first one holds back", x.rests(0, 1), 2);
    Due.due(58, "rests(1, 0), the other one does", x.rests(1, 0), 4);
    // the last one never comes; quarrel 0 tears as long as quarrel 1 comes
    Due.due(58, "rests(0, 2)", x.rests(0, 2), 10);
    Due.due(58, "rests(2, 0)", x.rests(2, 0), 12);
    ArgumentMender y = Due.cloth("cloth years 1 law 0 odds 5;claim;thread 0 to hem holds 60;quarrel 0 by 1 at 0;"
        + "quarrel 0 by 1 at 0;quarrel 0 by 9 at 1;quarrel 0 by 9 at 1;");
    Due.due(58, "rests(0, 1), neither", y.rests(0, 1), 1);
    Due.due(58, "rests(2, 3), all alike", y.rests(2, 3), 15);
    // both torn and through: two tears and nothing won
    ArgumentMender z = Due.cloth("cloth years 1 law 0 odds 5;claim;thread 0 to hem holds 1;thread 0 to hem holds 1;"
        + "quarrel 0 by 90 at 0;quarrel 0 by 1 at 0;");
    Due.due(59, "gets(0, 1, 0, 0), through", z.gets(0, 1, 0, 0), -40);
    Due.due(59, "gets(1, 0, 0, 0), through a hole", z.gets(1, 0, 0, 0), 0);
    Due.due(59, "gets(1, 0, 0, 1)", z.gets(1, 0, 0, 1), 1);
    Due.due(58, "rests(0, 1)", z.rests(0, 1), 2);
    int[][] bad = {{0, 0}, {-1, 0}, {0, 2}, {2, 1}, {0, -1}};
    for (int[] b : bad) {
      Due.due(58, "rests", z.rests(b[0], b[1]), -2);
      Due.due(59, "gets", z.gets(b[0], b[1], 0, 0), -1000);
    }
    Due.due(59, "gets(0, 1, 2, 0)", z.gets(0, 1, 2, 0), -1000);
    Due.due(59, "gets(0, 1, 0, -1)", z.gets(0, 1, 0, -1), -1000);
    Due.due(58, "rests(0, 1) without a cloth", new ArgumentMender().rests(0, 1), -2);
    Due.due(59, "gets(0, 1, 0, 0) without a cloth", new ArgumentMender().gets(0, 1, 0, 0), -1000);
  }

  private static void chance(ArgumentMender x, int claim, long above, long below) {
    Due.due(60, "chance(" + claim + ", 0)", x.chance(claim, 0), above);
    Due.due(60, "chance(" + claim + ", 1)", x.chance(claim, 1), below);
  }

  private static void mean(ArgumentMender x, long above, long below) {
    Due.due(61, "mean(0)", x.mean(0), above);
    Due.due(61, "mean(1)", x.mean(1), below);
  }

  private static void chances() {
    for (int odds = 0; odds <= 10; odds++) {
      ArgumentMender x = Due.cloth(ONE.replace("odds 5", "odds " + odds));
      int g = odds == 0 || odds == 10 ? 10 : odds == 5 ? 5 : odds % 2 == 0 ? 2 : 1;
      chance(x, 0, (10 - odds) / g, 10 / g);
      mean(x, (10 - odds) / g, 10 / g);
    }
    ArgumentMender two = Due.cloth("cloth years 2 law 0 odds 3;claim;claim;thread 0 to hem holds 10;"
        + "thread 1 to hem holds 10;quarrel 0 by 11 at 0;quarrel 1 by 11 at 0;quarrel 0 by 11 at 1;quarrel 1 by 9 at 7;");
    chance(two, 0, 49, 100);
    chance(two, 1, 7, 10);
    mean(two, 119, 100);
    two.quarrels(1, 11, 0);
    chance(two, 1, 0, 1);
    mean(two, 49, 100);
    String eight = "cloth years 1 law 0 odds 1;claim;thread 0 to hem holds 1;" + "quarrel 0 by 2 at 0;".repeat(8);
    chance(Due.cloth(eight), 0, 43046721, 100000000);
    ArgumentMender nine = Due.cloth(eight + "quarrel 0 by 1 at 11;");
    Due.due(60, "chance(0, 0), nine told", nine.chance(0, 0), -3);
    Due.due(61, "mean(1), nine told", nine.mean(1), -3);
    Due.due(60, "chance(1, 0), -2 first", nine.chance(1, 0), -2);
    Due.due(61, "mean(2), -2 first", nine.mean(2), -2);
    Due.due(60, "chance(-1, 0)", two.chance(-1, 0), -2);
    Due.due(60, "chance(2, 0)", two.chance(2, 0), -2);
    Due.due(60, "chance(0, 2)", two.chance(0, 2), -2);
    Due.due(60, "chance(0, -1)", two.chance(0, -1), -2);
    Due.due(61, "mean(-1)", two.mean(-1), -2);
    Due.due(61, "mean(0) without a cloth", new ArgumentMender().mean(0), -2);
    chance(Due.cloth("cloth years 1 law 0 odds 5;claim;thread 0 to hem holds 1;"), 0, 1, 1);
    mean(Due.cloth("cloth years 1 law 0 odds 5;"), 0, 1);
  }

  private static void draws() {
    // drawn from 0: 0 8 8 7 8 7 5 1 2 0; from 1: 8 8 3 5 1 7 0 9 2 6
    ArgumentMender x = Due.cloth("cloth years 1 law 0 odds 5;claim;thread 0 to hem holds 9;"
        + "quarrel 0 by 1 at 0;".repeat(5) + "quarrel 0 by 1 at 11;".repeat(5));
    Due.due(66, "drawn(0, 0)", x.drawn(0, 0), 897);
    Due.due(66, "drawn(1, 0)", x.drawn(1, 0), 340);
    Due.due(66, "drawn(1, 1)", x.drawn(1, 1), 1);
    ArgumentMender y = Due.cloth(ONE);
    // the first draws from 0, 1, 2, 3 are 0, 8, 8, 7
    Due.due(66, "drawn(0, 1)", y.drawn(0, 1), 0);
    Due.due(66, "drawn(1, 1)", y.drawn(1, 1), 1);
    for (int n = 1; n <= 4; n++) Due.due(67, "luck(0, " + n + ", 0)", y.luck(0, n, 0), n - 1);
    y.quarrels(0, 90, 1);
    Due.due(66, "quarrels of acts are sure", y.drawn(1, 1), 0);
    Due.due(67, "quarrels of acts are sure", y.luck(0, 20, 0), 0);
    int[] sure = {0, 1023};
    for (int i = 0; i < 2; i++) {
      ArgumentMender z = Due.cloth("cloth years 1 law 0 odds " + 10 * i + ";claim;" + "quarrel 0 by 1 at 0;".repeat(10));
      Due.due(66, "drawn(2000000000, 0)", z.drawn(2000000000, 0), sure[i]);
    }
    Due.due(66, "drawn(-1, 0)", x.drawn(-1, 0), -2);
    Due.due(66, "drawn(2000000001, 0)", x.drawn(2000000001, 0), -2);
    Due.due(66, "drawn(0, 2)", x.drawn(0, 2), -2);
    Due.due(66, "drawn(0, -1)", x.drawn(0, -1), -2);
    Due.due(66, "drawn(0, 0) without a cloth", new ArgumentMender().drawn(0, 0), -2);
    Due.due(67, "luck(-1, 1, 0)", x.luck(-1, 1, 0), -2);
    Due.due(67, "luck(2000000001, 1, 0)", x.luck(2000000001, 1, 0), -2);
    Due.due(67, "luck(2000000000, 20, 0)", x.luck(2000000000, 20, 0), 20);
    Due.due(67, "luck(0, 0, 0)", x.luck(0, 0, 0), -2);
    Due.due(67, "luck(0, 21, 0)", x.luck(0, 21, 0), -2);
    Due.due(67, "luck(0, 1, 1)", x.luck(0, 1, 1), -2);
    Due.due(67, "luck(0, 1, -1)", x.luck(0, 1, -1), -2);
  }
}
