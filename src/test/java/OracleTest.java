import java.lang.reflect.Method;
import java.lang.reflect.Modifier;
import java.util.ArrayList;
import java.util.HashMap;
import java.util.List;
import java.util.Map;
import java.util.Random;

/** Random runs of up to 512 calls, each answer compared with PlainMender's. Argument 1: how many runs, 2: the first seed. */
public final class OracleTest {
  private static final Map<String, Method> METHODS = new HashMap<>();
  private static final List<String> NAMES = new ArrayList<>();
  private static final Map<String, String> KINDS = new HashMap<>();

  static {
    for (Method m : ArgumentMender.class.getDeclaredMethods()) {
      if (Modifier.isPublic(m.getModifiers())) METHODS.put(m.getName(), m);
    }
    // c claim, t thread, q quarrel, y year, w what, n a pull, h a strength, s slot, b bits, l law, z seed
    String kinds = "fault w|thread tw|quarrel qw|threads c|strength ty|torn y|tears t|holes y|hole c|hung y|falls c"
        + "|sum y|strongest y|weakest y|loses y|bare y|frail|stuff cy|steps cy|has qt|pulls q|rips q|through q|hem q"
        + "|loud|worst|bears t|worn t|idle|tries cny|would cnyt|lets cny|gate cy|soft y|bursts cy|word tc|darn c"
        + "|mend t|cut cy|keys cy|blame|dear|worse|fits st|least st|greatest st|ask st|leaves st|laws s|by l|law"
        + "|worth b|share tw|rests qq|gets qqww|chance cw|mean w|sews thy|quarrels chy|undo|anew|drawn zw|luck zhc"
        + "|rate th|count w|image w|back w|row swh|write siv|paste sisih|end h|cloth|feed vvvvv";
    for (String k : kinds.split("\\|")) {
      String[] parts = k.split(" ");
      NAMES.add(parts[0]);
      KINDS.put(parts[0], parts.length > 1 ? parts[1] : "");
    }
  }

  private final Random random;
  private final ArgumentMender mender = new ArgumentMender();
  private final PlainMender plain = new PlainMender();
  private final StringBuilder log = new StringBuilder();
  private boolean wrong = false;
  private int calls = 0;
  private int claims = 8;
  private int threads = 16;
  private int quarrels = 10;
  private int years = 12;

  private OracleTest(long seed) {
    random = new Random(seed);
  }

  public static void main(String[] args) throws Exception {
    int runs = args.length > 0 ? Integer.parseInt(args[0]) : 400;
    long first = args.length > 1 ? Long.parseLong(args[1]) : 1;
    int bad = 0;
    if (!KINDS.keySet().equals(METHODS.keySet())) {
      System.out.println("not every method is called: " + METHODS.keySet());
      bad++;
    }
    for (long seed = first; seed < first + runs && bad < 5; seed++) {
      OracleTest t = new OracleTest(seed);
      t.run();
      if (t.wrong) {
        bad++;
        System.out.println("seed " + seed + ":\n" + t.log);
      }
    }
    System.out.println(bad == 0 ? "all answers are as the oracle's" : "answers are not as the oracle's");
    if (bad != 0) System.exit(1);
  }

  private void run() throws Exception {
    // one run in four begins without a cloth
    if (random.nextInt(4) > 0) tell();
    for (int i = 0; i < 250 && calls < 512 && !wrong; i++) {
      int die = random.nextInt(100);
      if (die < 3) tell();
      else if (die < 8) see();
      else if (die == 8) crowd(random.nextInt(3) == 0 ? "feed" : random.nextBoolean() ? "sews" : "quarrels");
      else call(NAMES.get(random.nextInt(NAMES.size())));
    }
  }

  private int below(int n) {
    return random.nextInt(Math.max(1, n));
  }

  private String cloth() {
    years = 1 + random.nextInt(random.nextInt(3) == 0 ? 12 : 5);
    claims = random.nextInt(9);
    threads = random.nextInt(3) == 0 ? random.nextInt(17) : random.nextInt(9);
    quarrels = random.nextInt(random.nextInt(3) == 0 ? 11 : 5);
    int holds = 1 + random.nextInt(60);
    int pull = 1 + random.nextInt(90);
    List<String> lines = new ArrayList<>();
    int told = 0;
    if (claims == 0) {
      threads = 0;
      quarrels = 0;
    }
    for (int c = 0; c < claims; c++) lines.add("claim");
    for (int i = 0; i < threads; i++) {
      int from = random.nextInt(claims);
      String to = from == 0 || random.nextInt(3) == 0 ? "hem" : "" + random.nextInt(from);
      lines.add("thread " + from + " to " + to + " holds " + (1 + random.nextInt(holds)));
    }
    for (int i = 0; i < quarrels; i++) {
      int when = random.nextInt(8) == 0 ? random.nextInt(12) : random.nextInt(years);
      lines.add("quarrel " + random.nextInt(claims) + " by " + (1 + random.nextInt(pull)) + " at " + when);
    }
    StringBuilder text = new StringBuilder("cloth years " + years + " law " + random.nextInt(4) + " odds "
        + random.nextInt(11) + ";");
    for (String line : lines) {
      text.append(line.replace(" ", random.nextInt(30) == 0 ? " \n " : " "));
      text.append(random.nextInt(20) == 0 ? " ; " : ";");
    }
    return text.toString();
  }

  private String spoiled(String text) {
    StringBuilder s = new StringBuilder(text);
    String[] bits = {";", "claim;", "cloth", "hem", "99", "0", "7", "thread 0 to hem holds 1;", "quarrel 0 by 1 at 0;",
        "", "X", "\u00e9", "\t", "12345678901234567890", " ", "\n", "000", "a"};
    int times = 1 + random.nextInt(2);
    for (int i = 0; i < times && s.length() > 0; i++) {
      int at = random.nextInt(s.length() + 1);
      int cut = Math.min(s.length(), at + random.nextInt(4));
      s.replace(at, cut, bits[random.nextInt(bits.length)]);
    }
    return s.toString();
  }

  private void tell() throws Exception {
    String text = cloth();
    int die = random.nextInt(10);
    if (die == 0) text = "";
    if (die == 1) text = random.nextBoolean() ? "  \n" : text.substring(0, random.nextInt(text.length()));
    if (die == 2 || die == 3) text = spoiled(text);
    compare("end", 0);
    if (text.length() > 800) text = text.substring(0, 800);
    for (int i = 0; i < text.length(); i += 20) {
      long[] words = new long[5];
      for (int k = 0; k < 20; k++) {
        int b = i + k < text.length() ? text.charAt(i + k) : ' ';
        words[k / 4] = (int) (words[k / 4] << 8 | b & 255);
      }
      compare("feed", words);
    }
    compare("end", text.length());
    log.append("told: ").append(text).append('\n');
    compare("cloth");
    compare("fault", 0);
    compare("fault", 1);
    for (int w = 0; w < 10; w++) compare("count", w);
  }

  /** A row that was really seen, or nearly. */
  private void see() throws Exception {
    int slot = random.nextInt(4);
    int n = random.nextInt(4);
    compare("row", slot, random.nextInt(4), 3 * n);
    int thread = below(threads);
    for (int i = 0; i < n; i++) {
      int t = random.nextInt(3) == 0 ? below(threads) : thread;
      int y = random.nextInt(years + 1);
      long s = plain.call("strength", t, y);
      if (random.nextInt(12) == 0) s = random.nextInt(102) - 1;
      compare("write", slot, 3 * i, t);
      compare("write", slot, 3 * i + 1, y);
      compare("write", slot, 3 * i + 2, s);
    }
    for (String name : new String[] {"fits", "least", "greatest", "ask", "leaves"}) compare(name, slot, thread);
    compare("laws", slot);
  }

  /** So many of one call that a limit is met. */
  private void crowd(String name) throws Exception {
    for (int i = random.nextInt(45); i >= 0; i--) call(name);
    if (random.nextBoolean()) call("anew");
  }

  private long argument(char kind) {
    if (random.nextInt(60) == 0) {
      long[] far = {Integer.MIN_VALUE, Integer.MAX_VALUE, -2, 1000, 1 << 16, -1, 31, 32, 33};
      return far[random.nextInt(far.length)];
    }
    boolean edge = random.nextInt(12) == 0;
    return switch (kind) {
      case 'c' -> edge ? random.nextInt(11) - 1 : below(claims);
      case 't' -> edge ? random.nextInt(19) - 1 : below(threads);
      case 'q' -> edge ? random.nextInt(13) - 1 : below(quarrels);
      case 'y' -> edge ? random.nextInt(15) - 1 : random.nextInt(years + 1);
      case 'w' -> edge ? random.nextInt(13) - 1 : random.nextInt(3);
      case 'n' -> edge ? random.nextInt(203) - 1 : 1 + random.nextInt(100);
      case 'h' -> edge ? random.nextInt(95) - 1 : 1 + random.nextInt(random.nextInt(3) == 0 ? 60 : 20);
      case 's' -> edge ? random.nextInt(7) - 1 : random.nextInt(4);
      case 'b' -> edge ? random.nextInt(1 << 17) : below(1 << threads);
      case 'l' -> random.nextInt(6) - 1;
      case 'z' -> edge ? 2000000000L - 10 + random.nextInt(20) : random.nextInt(2000000000);
      case 'i' -> edge ? random.nextInt(64) - 2 : random.nextInt(6);
      default -> edge ? random.nextInt() : random.nextInt(20);
    };
  }

  private void call(String name) throws Exception {
    String kinds = KINDS.get(name);
    long[] a = new long[kinds.length()];
    for (int i = 0; i < a.length; i++) a[i] = argument(kinds.charAt(i));
    compare(name, a);
  }

  private void compare(String name, long... a) throws Exception {
    // what later calls answer is free
    if (calls == 512) return;
    calls++;
    Method m = METHODS.get(name);
    Class<?>[] types = m.getParameterTypes();
    Object[] given = new Object[a.length];
    for (int i = 0; i < a.length; i++) {
      given[i] = types[i] == long.class ? (Object) a[i] : (Object) (int) a[i];
    }
    long got = ((Number) m.invoke(mender, given)).longValue();
    long due = plain.call(name, a);
    if (!name.equals("feed")) log.append(name).append(java.util.Arrays.toString(a)).append(" = ").append(got);
    if (got != due) {
      wrong = true;
      log.append(", the oracle: ").append(due);
    }
    log.append('\n');
  }
}
