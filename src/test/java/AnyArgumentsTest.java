import java.util.ArrayList;
import java.util.List;
import java.util.Random;

/**
 * Every call with arguments at and beyond all edges, with no cloth, with an empty, a small and the fullest one: none
 * throws, each ends, and each answers as the oracle does. An object is used for 512 calls at the most.
 */
public final class AnyArgumentsTest {
  private static final String[] FORMS = {"fault(%)", "thread(%, %)", "quarrel(%, %)", "threads(%)", "strength(%, %)",
      "torn(%)", "tears(%)", "holes(%)", "hole(%)", "hung(%)", "falls(%)", "sum(%)", "strongest(%)", "weakest(%)",
      "loses(%)", "bare(%)", "frail()", "stuff(%, %)", "steps(%, %)", "has(%, %)", "pulls(%)", "rips(%)", "through(%)",
      "hem(%)", "loud()", "worst()", "bears(%)", "worn(%)", "idle()", "tries(%, %, %)", "would(%, %, %, %)",
      "lets(%, %, %)", "gate(%, %)", "soft(%)", "bursts(%, %)", "word(%, %)", "darn(%)", "mend(%)", "cut(%, %)",
      "keys(%, %)", "blame()", "dear()", "worse()", "fits(%, %)", "least(%, %)", "greatest(%, %)", "ask(%, %)",
      "leaves(%, %)", "laws(%)", "by(%)", "law()", "worth(%)", "share(%, %)", "rests(%, %)", "gets(%, %, %, %)",
      "chance(%, %)", "mean(%)", "undo()", "anew()", "drawn(%, %)", "luck(%, %, %)", "rate(%, %)", "count(%)",
      "image(%)", "back(%)", "row(%, %, %)", "write(%, %, %)", "paste(%, %, %, %, %)", "sews(%, %, %)",
      "quarrels(%, %, %)", "end(%)", "feed(%, %, %, %, %)", "cloth()"};
  /** The last that is taken and the first that is refused of all bounds that the document names. */
  private static final int[] EDGES = {-1, 0, 1, 2, 3, 4, 7, 8, 9, 10, 11, 12, 13, 15, 16, 20, 21, 59, 60, 61, 90, 91, 200,
      201, 780, 800, 801, 65535, 65536, 2000000000, 2000000001, Integer.MAX_VALUE, Integer.MIN_VALUE, -2};
  private static final int MOST_OF_A_FORM = 150;

  private final Random random = new Random(8);
  private final String text;
  private final boolean acting;
  private Bench bench;

  private AnyArgumentsTest(String text, boolean acting) {
    this.text = text;
    this.acting = acting;
  }

  public static void main(String[] args) {
    Bench.says("What it is", "An object is used for at most 512 calls after it has been made");
    Bench.areAll(FORMS);
    new AnyArgumentsTest(null, false).run();
    new AnyArgumentsTest("cloth years 1 law 0 odds 0;", false).run();
    new AnyArgumentsTest("cloth years 2 law 1 odds 4;claim;claim;thread 0 to hem holds 5;thread 1 to 0 holds 10;"
        + "thread 1 to hem holds 10;quarrel 1 by 8 at 0;quarrel 0 by 4 at 1;", true).run();
    for (int law = 0; law < 4; law++) new AnyArgumentsTest(full(law), law % 2 == 0).run();
    Bench.finish("AnyArgumentsTest");
  }

  private static String full(int law) {
    StringBuilder all = new StringBuilder("cloth years 12 law " + law + " odds 3;" + "claim;".repeat(8));
    for (int t = 0; t < 16; t++) {
      int from = t / 2;
      String to = t % 2 == 0 || from == 0 ? "hem" : "" + (from - 1);
      all.append("thread ").append(from).append(" to ").append(to).append(" holds ").append(60 - 3 * t).append(';');
    }
    for (int q = 0; q < (law == 3 ? 10 : 8); q++) {
      all.append("quarrel ").append(7 - q % 8).append(" by ").append(10 + 5 * q).append(" at ").append(11 - q).append(';');
    }
    return all.toString();
  }

  private void renew() {
    bench = text == null ? new Bench() : Bench.of(text);
    bench.see(0, 0, 0, 1, 40).see(1, 3, 1, 0, 5);
    for (int i = 0; acting && i < 28; i++) {
      bench.ask(i % 3 == 0 ? "quarrels(" + i % 2 + ", 4, " + i % 2 + ")" : "sews(" + i % 3 + ", 1, " + i % 2 + ")");
    }
  }

  private void run() {
    for (String form : FORMS) {
      renew();
      for (String call : calls(form)) {
        if (bench.calls() > 500) renew();
        bench.aside(call);
      }
    }
  }

  /** All of one or two arguments; of more, as many by chance. */
  private List<String> calls(String form) {
    List<String> done = List.of(form);
    int places = form.replaceAll("[^%]", "").length();
    if (places > 2) return byChance(form);
    for (int i = 0; i < places; i++) {
      List<String> next = new ArrayList<>();
      for (String call : done) {
        for (int edge : EDGES) next.add(call.replaceFirst("%", "" + edge));
      }
      done = next;
    }
    return done;
  }

  private List<String> byChance(String form) {
    List<String> done = new ArrayList<>();
    for (int i = 0; i < MOST_OF_A_FORM; i++) {
      String call = form;
      while (call.contains("%")) {
        // mostly such as are taken, so that each of the others is met alone, too
        int edge = random.nextInt(4) == 0 ? EDGES[random.nextInt(EDGES.length)] : random.nextInt(3);
        call = call.replaceFirst("%", "" + edge);
      }
      done.add(call);
    }
    return done;
  }
}
