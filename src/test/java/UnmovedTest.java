/** That asking leaves all as it was, and that no answer is told from an older cloth once something has changed. */
public final class UnmovedTest {
  private static final String HARM = "cloth years 2 law 1 odds 4;claim;claim;thread 0 to hem holds 5;"
      + "thread 1 to 0 holds 10;thread 1 to hem holds 10;quarrel 1 by 8 at 0;quarrel 0 by 4 at 1;";
  /** As many of all, but not the same. */
  private static final String OTHER = "cloth years 2 law 0 odds 7;claim;claim;thread 1 to hem holds 9;"
      + "thread 0 to hem holds 3;thread 1 to 0 holds 7;quarrel 0 by 4 at 0;quarrel 1 by 13 at 0;";
  /** Those that take long, and may be known from an earlier call. */
  private static final String[] DEAR = {"word(0, 0)", "word(1, 0)", "word(2, 0)", "word(2, 1)", "darn(0)", "darn(1)",
      "mend(0)", "mend(1)", "mend(2)", "blame()", "dear()", "worse()", "law()", "share(0, 0)", "share(1, 0)",
      "share(2, 0)", "share(0, 1)", "rests(0, 1)", "gets(0, 1, 0, 1)", "chance(0, 0)", "chance(1, 0)", "chance(0, 1)",
      "mean(0)", "drawn(0, 1)", "drawn(1, 1)", "luck(0, 20, 0)", "luck(5, 20, 1)", "soft(0)", "soft(2)", "worth(5)"};
  private static final String[] REST = {"fault(0)", "thread(0, 1)", "quarrel(0, 1)", "threads(1)", "strength(0, 1)",
      "torn(1)", "tears(0)", "holes(1)", "hole(0)", "hung(1)", "falls(0)", "sum(1)", "strongest(1)", "weakest(1)",
      "loses(0)", "bare(1)", "frail()", "stuff(1, 1)", "steps(1, 1)", "has(0, 1)", "pulls(0)", "rips(0)", "through(0)",
      "hem(0)", "loud()", "worst()", "bears(1)", "worn(1)", "idle()", "tries(1, 200, 0)", "would(1, 9, 0, 1)",
      "lets(1, 200, 0)", "gate(1, 0)", "bursts(1, 0)", "cut(1, 0)", "keys(1, 0)", "fits(0, 0)", "least(0, 0)",
      "greatest(0, 0)", "ask(0, 0)", "leaves(0, 0)", "laws(0)", "by(2)", "drawn(0, 0)", "count(8)"};

  public static void main(String[] args) {
    asking();
    changing();
    replacing();
    Bench.finish("UnmovedTest");
  }

  private static void askAll(Bench x, String[] calls) {
    for (String call : calls) x.aside(call);
  }

  private static void asking() {
    Bench.says("V", "nothing stays of it");
    Bench x = Bench.of(HARM);
    x.ask("image(0)");
    x.ask("sews(0, 1, 0)");
    x.ask("quarrels(1, 3, 1)");
    x.see(0, 0, 0, 0, 5).tell("cloth");
    askAll(x, DEAR);
    askAll(x, REST);
    x.unmoved();
    Bench none = new Bench();
    askAll(none, DEAR);
    askAll(none, REST);
    none.unmoved();
  }

  private static void changing() {
    Bench.says("What it is", "words let in, quarrels more, taken back");
    String[] changes = {"sews(0, 3, 0)", "sews(2, 1, 0)", "quarrels(1, 9, 1)", "undo()", "image(1)", "anew()",
        "rate(2, 60)", "rate(0, 1)", "image(2)", "back(1)", "back(2)"};
    Bench x = Bench.of(HARM);
    askAll(x, DEAR);
    for (String change : changes) {
      x.ask(change);
      askAll(x, DEAR);
    }
    Bench.says("What it is", "and images gone back to");
    Bench y = Bench.of(HARM);
    y.ask("image(0)");
    askAll(y, DEAR);
    y.tell(OTHER).due("cloth()", 8);
    askAll(y, DEAR);
    y.due("back(0)", 0);
    askAll(y, DEAR);
    y.tell("cloth").due("cloth()", -4);
    askAll(y, DEAR);
    y.due("cloth()", 0);
    askAll(y, DEAR);
    y.due("back(0)", 0);
    askAll(y, DEAR);
  }

  /** A full cloth in which all tears, then a small one in which nothing comes: nothing of the first is told of it. */
  private static void replacing() {
    Bench.says(4, "(in place of another)");
    StringBuilder full = new StringBuilder("cloth years 5 law 2 odds 5;" + "claim;".repeat(8));
    for (int t = 0; t < 16; t++) full.append("thread ").append(t / 2).append(" to hem holds ").append(t + 1).append(';');
    for (int q = 0; q < 10; q++) full.append("quarrel ").append(q % 8).append(" by 90 at 0;");
    String small = "cloth years 1 law 0 odds 5;claim;claim;thread 0 to hem holds 20;quarrel 0 by 1 at 1;quarrel 0 by 1 at 2;";
    Bench x = Bench.of(full.toString());
    x.due("rips(0)", 3).due("loud()", 1023).due("image(0)", 0).tell(small).due("cloth()", 6);
    x.due("rips(0)", 0).due("pulls(0)", 0).due("through(0)", -1).due("hem(1)", -1).due("loud()", 0).due("worst()", -1);
    x.due("weakest(0)", 0).due("strongest(1)", 0).due("sum(0)", 20).due("sum(1)", 20).due("torn(1)", 0).due("holes(1)", 2);
    x.due("stuff(0, 0)", 20).due("stuff(1, 0)", 0).due("bare(0)", 1).due("idle()", 1).due("threads(1)", 0);
    x.due("cut(0, 0)", 1).due("steps(1, 0)", -1).due("hung(1)", 1).due("keys(0, 0)", 1).due("bears(0)", 0);
    askAll(x, DEAR);
    askAll(x, REST);
    x.due("back(0)", 0).due("rips(0)", 3).due("loud()", 1023).due("sum(5)", 0).due("worst()", 0);
    askAll(x, REST);
  }
}
