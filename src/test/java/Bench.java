import java.lang.reflect.Method;
import java.lang.reflect.Modifier;
import java.nio.file.Files;
import java.nio.file.Path;
import java.util.ArrayList;
import java.util.HashMap;
import java.util.HashSet;
import java.util.List;
import java.util.Map;
import java.util.Set;
import java.util.regex.Matcher;
import java.util.regex.Pattern;

/**
 * An object under test whose calls are told as text, such as "strength(0, MAX)". Each answer is compared with what is
 * due and with PlainMender's. A test stands under the sentence of the document that it holds to: says() names it.
 */
final class Bench {
  private static final int MOST_CALLS = 512;
  private static final Pattern CALL = Pattern.compile("(\\w+)\\((.*)\\)");
  private static final Map<String, Method> METHODS = new HashMap<>();
  private static final Map<String, String> SECTIONS = new HashMap<>();
  private static final Set<String> SAID = new HashSet<>();
  private static String sentence = "";
  private static int sentences = 0;
  private static int asked = 0;
  private static int askedOfSentence = 1;
  private static int wrong = 0;

  static {
    for (Method m : ArgumentMender.class.getDeclaredMethods()) {
      if (Modifier.isPublic(m.getModifiers())) METHODS.put(m.getName(), m);
    }
    readSections();
  }

  private final ArgumentMender mender = new ArgumentMender();
  private final PlainMender plain = new PlainMender();
  private final List<String> taken = new ArrayList<>();
  private int calls = 0;

  // ---- the document

  /** "What it is", "I" to "X", "1" to "74": the text of each, its white space folded. */
  private static void readSections() {
    Path doc = Path.of("../shared/DOC.md");
    if (!Files.exists(doc)) return;
    String name = "";
    Map<String, StringBuilder> parts = new HashMap<>();
    Matcher heading = Pattern.compile("## (Promise )?(\\d+|[^:]*).*").matcher("");
    Matcher term = Pattern.compile("([IVX]+)\\. .*").matcher("");
    try {
      for (String line : Files.readAllLines(doc)) {
        if (heading.reset(line).matches()) name = heading.group(2);
        if (term.reset(line).matches()) name = term.group(1);
        parts.computeIfAbsent(name, k -> new StringBuilder()).append(' ').append(line);
      }
    } catch (java.io.IOException e) {
      throw new IllegalStateException(e);
    }
    parts.forEach((k, v) -> SECTIONS.put(k, fold(v.toString())));
  }

  private static String fold(String text) {
    return text.replaceAll("\\s+", " ").trim();
  }

  /** What follows holds to these words of a section; a sentence under which nothing is asked is a fault of the test. */
  static void says(String section, String words) {
    closeSentence();
    sentence = section + ", \"" + words + "\"";
    sentences++;
    askedOfSentence = 0;
    SAID.add(section);
    if (!SECTIONS.isEmpty() && !SECTIONS.getOrDefault(section, "").contains(fold(words))) {
      bad("the document does not say this");
    }
  }

  static void says(int promise, String words) {
    says("" + promise, words);
  }

  private static void closeSentence() {
    if (askedOfSentence == 0) bad("nothing is asked here");
  }

  private static void bad(String what) {
    wrong++;
    System.out.println(sentence + ": " + what);
  }

  /** Ends a test; every promise from a first to a last must have been met, and so on by pairs. */
  static void finish(String name, int... ranges) {
    closeSentence();
    for (int i = 0; i + 1 < ranges.length; i += 2) {
      for (int p = ranges[i]; p <= ranges[i + 1]; p++) {
        if (!SAID.contains("" + p)) {
          sentence = name;
          bad("no sentence of promise " + p);
        }
      }
    }
    System.out.println(name + ": " + sentences + " sentences, " + asked + " answers, " + wrong + " not as due");
    if (wrong != 0) System.exit(1);
  }

  /** That these calls are of all methods there are. */
  static void areAll(String[] calls) {
    Set<String> names = new HashSet<>();
    for (String call : calls) names.add(call.substring(0, call.indexOf('(')));
    if (!names.equals(METHODS.keySet())) bad("not all methods are called");
  }

  // ---- objects

  /** A new object that was told a cloth without a fault. */
  static Bench of(String text) {
    Bench x = new Bench();
    x.tell(text);
    if (x.ask("cloth()") < 0) bad("a fault in " + text);
    return x;
  }

  /** Two years of one claim that hangs from the hem by threads that hold so much. */
  static String law(int law, int... holds) {
    StringBuilder text = new StringBuilder("cloth years 2 law " + law + " odds 0;claim;");
    for (int h : holds) text.append("thread 0 to hem holds ").append(h).append(';');
    return text.toString();
  }

  /** The tape is just this text. */
  Bench tell(String text) {
    ask("end(0)");
    for (int i = 0; i < text.length(); i += 20) {
      int[] n = new int[5];
      for (int k = 0; k < 20; k++) {
        int b = i + k < text.length() ? text.charAt(i + k) : ' ';
        n[k / 4] = n[k / 4] << 8 | b & 255;
      }
      ask("feed(" + n[0] + ", " + n[1] + ", " + n[2] + ", " + n[3] + ", " + n[4] + ")");
    }
    ask("end(" + text.length() + ")");
    return this;
  }

  /** A slot has just these numbers. */
  Bench see(int slot, int width, long... row) {
    ask("row(" + slot + ", " + width + ", " + row.length + ")");
    for (int i = 0; i < row.length; i++) ask("write(" + slot + ", " + i + ", " + row[i] + ")");
    return this;
  }

  int calls() {
    return calls;
  }

  // ---- calls

  /** Without a look at the answer. */
  long ask(String call) {
    taken.add(call);
    return answer(call);
  }

  Bench due(String call, long want) {
    taken.add(call);
    return compare(call, want);
  }

  /** A call that must leave all as it was; unmoved() looks whether it did. */
  Bench refused(String call, long want) {
    return compare(call, want);
  }

  /** A call that only asks: it is compared with the oracle alone, and must leave all as it was. */
  Bench aside(String call) {
    asked++;
    askedOfSentence++;
    answer(call);
    return this;
  }

  /** One call for each value in the place of the sign %. */
  Bench each(String call, long want, long... values) {
    for (long v : values) due(call.replace("%", "" + v), want);
    return this;
  }

  /** What an index of n things refuses: the first beyond them on both sides, and the farthest. */
  Bench beyond(String call, long want, int n) {
    for (long v : new long[] {-1, n, Integer.MIN_VALUE, Integer.MAX_VALUE}) refused(call.replace("%", "" + v), want);
    return this;
  }

  private Bench compare(String call, long want) {
    asked++;
    askedOfSentence++;
    long got = answer(call);
    if (got != want) bad(call + " answered " + got + ", due is " + want);
    return this;
  }

  private long answer(String call) {
    Matcher m = CALL.matcher(call);
    if (!m.matches() || !METHODS.containsKey(m.group(1))) throw new IllegalArgumentException(call);
    Method method = METHODS.get(m.group(1));
    String[] words = m.group(2).isEmpty() ? new String[0] : m.group(2).split(", ");
    long[] a = new long[words.length];
    Object[] given = new Object[words.length];
    for (int i = 0; i < a.length; i++) {
      a[i] = words[i].equals("MAX") ? Integer.MAX_VALUE : words[i].equals("MIN") ? Integer.MIN_VALUE
          : Long.parseLong(words[i]);
      given[i] = method.getParameterTypes()[i] == long.class ? (Object) a[i] : (Object) Math.toIntExact(a[i]);
    }
    calls++;
    if (calls > MOST_CALLS) bad(call + ": an object is used for 512 calls");
    try {
      long got = ((Number) method.invoke(mender, given)).longValue();
      long also = plain.call(m.group(1), a);
      if (got != also) bad(call + " answered " + got + ", the oracle " + also);
      return got;
    } catch (ReflectiveOperationException e) {
      bad(call + " threw " + e.getCause());
      return Long.MIN_VALUE;
    }
  }

  // ---- what refused calls leave

  /** All that can be asked is as with an object that never heard the refused calls. The object is used up by it. */
  void unmoved() {
    Bench twin = new Bench();
    for (String call : taken) twin.answer(call);
    asked++;
    askedOfSentence++;
    for (String call : sweep()) {
      long got = answer(call);
      long want = twin.answer(call);
      if (got != want) bad(call + " behind refused calls answered " + got + ", without them " + want);
    }
  }

  private List<String> sweep() {
    List<String> all = new ArrayList<>();
    for (int what = 0; what < 10; what++) all.add("count(" + what + ")");
    all.add("fault(0)");
    all.add("fault(1)");
    state(all);
    int threads = mender.count(4);
    for (int t = 0; t < threads; t++) {
      for (int what = 0; what < 3; what++) all.add("thread(" + t + ", " + what + ")");
      all.add("bears(" + t + ")");
      all.add("worn(" + t + ")");
    }
    for (int q = 0; q < mender.count(5); q++) {
      for (int what = 0; what < 3; what++) all.add("quarrel(" + q + ", " + what + ")");
      all.add("rips(" + q + ")");
      all.add("through(" + q + ")");
    }
    for (int slot = 0; slot < 4; slot++) {
      all.add("laws(" + slot + ")");
      all.add("least(" + slot + ", 0)");
      all.add("greatest(" + slot + ", 0)");
    }
    for (int k = 0; k < 3; k++) {
      all.add("back(" + k + ")");
      state(all);
    }
    // what was on the tape
    for (String call : new String[] {"cloth()", "fault(0)", "fault(1)", "count(7)", "anew()", "sum(1)"}) all.add(call);
    return all;
  }

  private void state(List<String> all) {
    for (String call : new String[] {"count(6)", "count(7)", "blame()", "darn(0)", "worth(1)", "mean(0)", "law()"}) {
      all.add(call);
    }
    for (int y = 0; y <= Math.max(2, mender.count(0)); y++) {
      for (int t = 0; t < Math.min(4, mender.count(4)); t++) all.add("strength(" + t + ", " + y + ")");
      all.add("torn(" + y + ")");
      all.add("hung(" + y + ")");
      all.add("sum(" + y + ")");
    }
  }
}
