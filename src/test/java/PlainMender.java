import java.math.BigInteger;
import java.nio.charset.StandardCharsets;
import java.util.ArrayList;
import java.util.Arrays;
import java.util.HashMap;
import java.util.HashSet;
import java.util.List;
import java.util.Map;
import java.util.Set;
import java.util.regex.Matcher;
import java.util.regex.Pattern;

/** The document once more, as slowly and as plainly as can be: an oracle for OracleTest. */
final class PlainMender {
  static final class State {
    int years;
    int law;
    int odds;
    int claims;
    int lines;
    List<int[]> threads = new ArrayList<>();
    List<int[]> quarrels = new ArrayList<>();
    List<int[]> acts = new ArrayList<>();

    State copy() {
      State s = new State();
      s.years = years;
      s.law = law;
      s.odds = odds;
      s.claims = claims;
      s.lines = lines;
      for (int[] t : threads) s.threads.add(t.clone());
      for (int[] q : quarrels) s.quarrels.add(q.clone());
      for (int[] a : acts) s.acts.add(a.clone());
      return s;
    }
  }

  static final class Pulled {
    int[] share;
    int pulls;
    Set<Integer> rips = new HashSet<>();
    int lost;
    int hem;
    Map<Integer, Integer> wear = new HashMap<>();
  }

  static final class Lived {
    List<int[]> rows = new ArrayList<>();
    Map<Integer, Pulled> told = new HashMap<>();
    List<Pulled> all = new ArrayList<>();
  }

  private String tape = "";
  private State st = null;
  private final State[] images = new State[3];
  private final boolean[] has = new boolean[3];
  private final long[][] slots = new long[4][];
  private final int[] widths = new int[4];
  private int fault = 0;
  private int place = -1;

  // ---- reading

  private static final class Fault extends RuntimeException {
    final int what;
    final int where;

    Fault(int what, int where) {
      this.what = what;
      this.where = where;
    }
  }

  private static State parse(String text) {
    List<String> tokens = new ArrayList<>();
    List<Integer> places = new ArrayList<>();
    Matcher m = Pattern.compile("[a-z]+|[0-9]+|[^ \\n]", Pattern.DOTALL).matcher(text);
    while (m.find()) {
      tokens.add(m.group());
      places.add(m.start());
    }
    tokens.add("");
    places.add(text.length());
    State s = new State();
    int i = 0;
    while (!tokens.get(i).equals("")) {
      String head = tokens.get(i);
      Map<String, String> forms = Map.of("cloth", "cloth years # law # odds # ;", "claim", "claim ;",
          "thread", "thread # to @ holds # ;", "quarrel", "quarrel # by # at # ;");
      if (!forms.containsKey(head) || (head.equals("cloth") != (s.lines == 0))) throw new Fault(1, places.get(i));
      if (head.equals("claim") && s.claims == 8 || head.equals("thread") && s.threads.size() == 16
          || head.equals("quarrel") && s.quarrels.size() == 10) throw new Fault(3, places.get(i));
      List<Integer> numbers = new ArrayList<>();
      for (String part : forms.get(head).split(" ")) {
        String token = tokens.get(i);
        if (part.equals("#") || part.equals("@")) {
          if (part.equals("@") && token.equals("hem")) {
            numbers.add(-1);
          } else {
            if (!token.matches("[0-9]+")) throw new Fault(1, places.get(i));
            int[] bounds = bounds(head, numbers, s);
            BigInteger v = new BigInteger(token);
            if (v.compareTo(BigInteger.valueOf(bounds[0])) < 0 || v.compareTo(BigInteger.valueOf(bounds[1])) > 0) {
              throw new Fault(2, places.get(i));
            }
            numbers.add(v.intValue());
          }
        } else if (!part.equals(token)) {
          throw new Fault(1, places.get(i));
        }
        i++;
      }
      s.lines++;
      int[] row = numbers.stream().mapToInt(x -> x).toArray();
      switch (head) {
        case "cloth" -> {
          s.years = row[0];
          s.law = row[1];
          s.odds = row[2];
        }
        case "claim" -> s.claims++;
        case "thread" -> s.threads.add(row);
        default -> s.quarrels.add(row);
      }
    }
    return s;
  }

  private static int[] bounds(String head, List<Integer> numbers, State s) {
    int k = numbers.size();
    return switch (head) {
      case "cloth" -> new int[][] {{1, 12}, {0, 3}, {0, 10}}[k];
      case "thread" -> new int[][] {{0, s.claims - 1}, {0, k > 0 ? numbers.get(0) - 1 : 0}, {1, 60}}[k];
      default -> new int[][] {{0, s.claims - 1}, {1, 90}, {0, 11}}[k];
    };
  }

  // ---- pulling

  private static Map<Integer, Integer> parts(State s, int law, int[] strength, int claim, int load) {
    List<Integer> list = new ArrayList<>();
    for (int t = 0; t < s.threads.size(); t++) {
      if (s.threads.get(t)[0] == claim && strength[t] > 0) list.add(t);
    }
    Map<Integer, Integer> out = new HashMap<>();
    if (list.isEmpty()) return out;
    List<Integer> byStrength = new ArrayList<>(list);
    byStrength.sort((a, b) -> strength[b] - strength[a]); // a stable sort: the first of several stays first
    for (int t : list) out.put(t, 0);
    switch (law) {
      case 0 -> {
        for (int i = 0; i < load; i++) out.merge(list.get(i % list.size()), 1, Integer::sum);
      }
      case 1 -> out.put(byStrength.get(0), load);
      case 2 -> {
        int all = list.stream().mapToInt(t -> strength[t]).sum();
        int given = 0;
        for (int t : list) {
          out.put(t, (int) Math.floor((double) strength[t] * load / all));
          given += out.get(t);
        }
        out.merge(byStrength.get(0), load - given, Integer::sum);
      }
      default -> {
        if (list.size() == 1) {
          out.put(list.get(0), load);
        } else {
          out.put(byStrength.get(0), load % 2 == 0 ? load / 2 : load / 2 + 1);
          out.put(byStrength.get(1), load / 2);
        }
      }
    }
    return out;
  }

  static Pulled pull(State s, int law, int[] strength, int claim, int n) {
    Pulled p = new Pulled();
    boolean tore = true;
    while (tore) {
      p.pulls++;
      p.share = new int[s.threads.size()];
      p.lost = 0;
      p.hem = 0;
      int[] load = new int[8];
      load[claim] = n;
      for (int c = 7; c >= 0; c--) {
        if (load[c] == 0) continue;
        Map<Integer, Integer> parts = parts(s, law, strength, c, load[c]);
        if (parts.isEmpty()) p.lost += load[c];
        for (int t : parts.keySet()) {
          p.share[t] = parts.get(t);
          int to = s.threads.get(t)[1];
          if (to < 0) p.hem += p.share[t];
          else load[to] += p.share[t];
        }
      }
      tore = false;
      int[] before = strength.clone();
      for (int t = 0; t < before.length; t++) {
        if (p.share[t] > before[t]) {
          strength[t] = 0;
          p.rips.add(t);
          tore = true;
        }
      }
    }
    for (int t = 0; t < strength.length; t++) {
      int less = p.share[t] / 5;
      p.wear.put(t, less);
      boolean was = strength[t] > 0;
      strength[t] -= less;
      if (was && strength[t] <= 0) p.rips.add(t);
    }
    return p;
  }

  static Lived live(State s, int law, int[] holds, Set<Integer> gone, Set<Integer> held) {
    Lived l = new Lived();
    int[] now = holds.clone();
    for (int t : gone) now[t] = 0;
    l.rows.add(now.clone());
    for (int y = 0; y < s.years; y++) {
      for (int[] a : s.acts) {
        if (a[0] == 0 && a[3] == y && !gone.contains(a[1])) now[a[1]] = Math.min(99, now[a[1]] + a[2]);
      }
      for (int q = 0; q < s.quarrels.size(); q++) {
        int[] quarrel = s.quarrels.get(q);
        if (quarrel[2] == y && !held.contains(q)) {
          Pulled p = pull(s, law, now, quarrel[0], quarrel[1]);
          l.told.put(q, p);
          l.all.add(p);
        }
      }
      for (int[] a : s.acts) {
        if (a[0] == 1 && a[3] == y) l.all.add(pull(s, law, now, a[1], a[2]));
      }
      l.rows.add(now.clone());
    }
    return l;
  }

  private Lived live() {
    return live(st, st.law, holds(), Set.of(), Set.of());
  }

  private int[] holds() {
    return st.threads.stream().mapToInt(t -> t[2]).toArray();
  }

  private static boolean hangs(State s, int[] strength, int claim) {
    for (int t = 0; t < strength.length; t++) {
      int[] th = s.threads.get(t);
      if (th[0] == claim && strength[t] > 0 && (th[1] < 0 || hangs(s, strength, th[1]))) return true;
    }
    return false;
  }

  private static int hung(State s, int[] strength) {
    int bits = 0;
    for (int c = 0; c < s.claims; c++) if (hangs(s, strength, c)) bits |= 1 << c;
    return bits;
  }

  private int lastHung(int law, int[] holds, Set<Integer> gone, Set<Integer> held) {
    return hung(st, live(st, law, holds, gone, held).rows.get(st.years));
  }

  private static int steps(State s, int[] strength, int claim) {
    int best = -1;
    for (int t = 0; t < strength.length; t++) {
      int[] th = s.threads.get(t);
      if (th[0] != claim || strength[t] == 0) continue;
      int rest = th[1] < 0 ? 0 : steps(s, strength, th[1]);
      if (rest >= 0 && (best < 0 || rest + 1 < best)) best = rest + 1;
    }
    return best;
  }

  private static boolean cutBy(State s, int[] strength, int claim, int from, int more) {
    if (more == 0) return !hangs(s, strength, claim);
    for (int t = from; t < strength.length; t++) {
      if (strength[t] == 0) continue;
      int was = strength[t];
      strength[t] = 0;
      boolean yes = cutBy(s, strength, claim, t + 1, more - 1);
      strength[t] = was;
      if (yes) return true;
    }
    return false;
  }

  private static int bits(Set<Integer> set) {
    int b = 0;
    for (int i : set) b |= 1 << i;
    return b;
  }

  private static Set<Integer> set(int bits) {
    Set<Integer> s = new HashSet<>();
    for (int i = 0; i < 32; i++) if ((bits >> i & 1) == 1) s.add(i);
    return s;
  }

  // ---- the calls

  private boolean claim(long c) {
    return st != null && c >= 0 && c < st.claims;
  }

  private boolean thread(long t) {
    return st != null && t >= 0 && t < st.threads.size();
  }

  private boolean quarrel(long q) {
    return st != null && q >= 0 && q < st.quarrels.size();
  }

  private boolean year(long y) {
    return st != null && y >= 0 && y <= st.years;
  }

  private boolean ahead(long y) {
    return st != null && y >= 0 && y < st.years;
  }

  private static boolean in(long x, long low, long high) {
    return x >= low && x <= high;
  }

  private static int least(int low, int high, java.util.function.IntPredicate p) {
    for (int i = low; i <= high; i++) if (p.test(i)) return i;
    return -1;
  }

  private int gate(int c, int y) {
    int[] row = live().rows.get(y);
    return least(1, 200, n -> {
      Pulled p = pull(st, st.law, row.clone(), c, n);
      return !p.rips.isEmpty() || p.lost > 0;
    });
  }

  private int word(int t, int claims) {
    return least(0, 60, w -> {
      int[] h = holds();
      h[t] += w;
      return (lastHung(st.law, h, Set.of(), Set.of()) & claims) == claims;
    });
  }

  private int all() {
    return (1 << st.claims) - 1;
  }

  private static long fraction(BigInteger above, BigInteger below, long what) {
    BigInteger g = above.gcd(below);
    return (what == 0 ? above.divide(g) : below.divide(g)).longValueExact();
  }

  private int nowHung() {
    return Integer.bitCount(hung(st, live().rows.get(st.years)));
  }

  private long gains(int q, int o, int x, int y) {
    Set<Integer> held = new HashSet<>();
    if (x == 1) held.add(q);
    if (y == 1) held.add(o);
    Pulled p = live(st, st.law, holds(), Set.of(), held).told.get(q);
    if (p == null) return 0;
    return (p.lost > 0 ? 0 : st.quarrels.get(q)[1]) - 20L * p.rips.size();
  }

  private int drawEvening(long seed) {
    BigInteger x = BigInteger.valueOf(seed);
    int come = 0;
    for (int q = 0; q < st.quarrels.size(); q++) {
      x = x.multiply(BigInteger.valueOf(1103515245L)).add(BigInteger.valueOf(12345)).mod(BigInteger.TWO.pow(31));
      if (x.intValue() / 65536 % 10 < st.odds) come |= 1 << q;
    }
    return come;
  }

  private int hungByEvening(int come) {
    Set<Integer> held = set(((1 << st.quarrels.size()) - 1) & ~come);
    return lastHung(st.law, holds(), Set.of(), held);
  }

  private long chances(int claims, long what) {
    int m = st.quarrels.size();
    if (m > 8) return -3;
    BigInteger above = BigInteger.ZERO;
    for (int come = 0; come < 1 << m; come++) {
      BigInteger w = BigInteger.ONE;
      for (int q = 0; q < m; q++) {
        w = w.multiply(BigInteger.valueOf((come >> q & 1) == 1 ? st.odds : 10 - st.odds));
      }
      above = above.add(w.multiply(BigInteger.valueOf(Integer.bitCount(hungByEvening(come) & claims))));
    }
    return fraction(above, BigInteger.TEN.pow(m), what);
  }

  private final Map<Integer, Integer> worths = new HashMap<>();
  private long sharedBefore;

  private int worthOf(int set) {
    return worths.computeIfAbsent(set, x -> {
      Set<Integer> gone = set(((1 << st.threads.size()) - 1) & ~x);
      return Integer.bitCount(lastHung(st.law, holds(), gone, Set.of()));
    });
  }

  private void orders(int there, int n, int t) {
    for (int next = 0; next < n; next++) {
      if ((there >> next & 1) == 1) continue;
      if (next == t) {
        // as many orders as the rest can come in
        long rest = 1;
        for (int i = 2; i <= n - 1 - Integer.bitCount(there & 255); i++) rest *= i;
        sharedBefore += rest * (worthOf(there | 1 << t) - worthOf(there));
      } else {
        orders(there | 1 << next, n, t);
      }
    }
  }

  private long share(int t, long what) {
    worths.clear();
    int n = Math.min(8, st.threads.size());
    int rest = ((1 << st.threads.size()) - 1) & ~255;
    sharedBefore = 0;
    orders(rest, n, t);
    long f = 1;
    for (int i = 2; i <= n; i++) f *= i;
    return fraction(BigInteger.valueOf(sharedBefore), BigInteger.valueOf(f), what);
  }

  private int rowBad(long slot, boolean threadFine) {
    if (!in(slot, 0, 3) || !threadFine) return -2;
    long[] r = slots[(int) slot];
    if (r == null) return -6;
    if (r.length % 3 != 0) return -2;
    for (int i = 0; i < r.length; i += 3) {
      if (!thread(r[i]) || !year(r[i + 1]) || !in(r[i + 2], 0, 99)) return -2;
    }
    return 0;
  }

  private static boolean agrees(Lived l, long[] r) {
    for (int i = 0; i < r.length; i += 3) if (l.rows.get((int) r[i + 1])[(int) r[i]] != r[i + 2]) return false;
    return true;
  }

  private long seen(String name, int slot, int t) {
    List<Integer> fit = new ArrayList<>();
    List<Lived> lives = new ArrayList<>();
    for (int h = 1; h <= 60; h++) {
      int[] holds = holds();
      holds[t] = h;
      Lived l = live(st, st.law, holds, Set.of(), Set.of());
      if (agrees(l, slots[slot])) {
        fit.add(h);
        lives.add(l);
      }
    }
    int best = -1;
    int fewest = fit.size();
    for (int y = 0; y <= st.years; y++) {
      Map<Integer, Integer> classes = new HashMap<>();
      for (Lived l : lives) classes.merge(l.rows.get(y)[t], 1, Integer::sum);
      int worst = classes.values().stream().mapToInt(x -> x).max().orElse(0);
      if (worst < fewest) {
        fewest = worst;
        best = y;
      }
    }
    return switch (name) {
      case "fits" -> fit.size();
      case "least" -> fit.isEmpty() ? -1 : fit.get(0);
      case "greatest" -> fit.isEmpty() ? -1 : fit.get(fit.size() - 1);
      case "ask" -> best;
      default -> fewest;
    };
  }

  private long act(int[] a) {
    if (st.acts.size() == 30) return -5;
    st.acts.add(a);
    return hung(st, live().rows.get(st.years));
  }

  private interface Rank {
    long of(int i);
  }

  /** The first of those that are greatest, if above a bound. */
  private static int top(int n, long above, Rank r) {
    int best = -1;
    for (int i = 0; i < n; i++) {
      if (r.of(i) > above) {
        above = r.of(i);
        best = i;
      }
    }
    return best;
  }

  long call(String name, long... a) {
    int x = a.length > 0 ? (int) a[0] : 0;
    int y = a.length > 1 ? (int) a[1] : 0;
    int z = a.length > 2 ? (int) a[2] : 0;
    switch (name) {
      case "feed": {
        if (tape.length() + 20 > 800) return -1;
        java.nio.ByteBuffer b = java.nio.ByteBuffer.allocate(20);
        for (long n : a) b.putInt((int) n);
        tape += new String(b.array(), StandardCharsets.ISO_8859_1);
        return tape.length();
      }
      case "end":
        if (x < 0 || x > tape.length()) return -1;
        tape = tape.substring(0, x);
        return x;
      case "cloth": {
        String text = tape;
        tape = "";
        try {
          State s = parse(text);
          fault = 0;
          place = -1;
          st = s.lines == 0 ? null : s;
          return s.lines;
        } catch (Fault f) {
          fault = f.what;
          place = f.where;
          return -4;
        }
      }
      case "fault":
        return x == 0 ? fault : x == 1 ? place : -1;
      case "thread":
        return thread(x) && in(y, 0, 2) ? st.threads.get(x)[y] : -2;
      case "quarrel":
        return quarrel(x) && in(y, 0, 2) ? st.quarrels.get(x)[y] : -2;
      case "count":
        switch (x) {
          case 0: return st == null ? 0 : st.years;
          case 1: return st == null ? 0 : st.law;
          case 2: return st == null ? 0 : st.odds;
          case 3: return st == null ? 0 : st.claims;
          case 4: return st == null ? 0 : st.threads.size();
          case 5: return st == null ? 0 : st.quarrels.size();
          case 6: return st == null ? 0 : st.acts.size();
          case 7: return st == null ? 0 : st.lines;
          case 8: return tape.length();
          case 9: return Arrays.stream(slots).filter(r -> r != null).count();
          default: return -1;
        }
      case "image":
        if (!in(x, 0, 2)) return -2;
        has[x] = true;
        images[x] = st == null ? null : st.copy();
        return 0;
      case "back":
        if (!in(x, 0, 2)) return -2;
        if (!has[x]) return -6;
        st = images[x] == null ? null : images[x].copy();
        return 0;
      case "row":
        if (!in(x, 0, 3) || !in(y, 0, 3) || z > 60) return -2;
        if (z < 0) return -3;
        slots[x] = new long[z];
        widths[x] = y;
        return 0;
      case "write": {
        if (!in(x, 0, 3)) return -2;
        if (slots[x] == null) return -6;
        if (!in(y, 0, slots[x].length - 1)) return -7;
        int shift = 64 - (8 << widths[x]);
        slots[x][y] = a[2] << shift >> shift;
        return 0;
      }
      case "paste": {
        if (!in(x, 0, 3) || !in(z, 0, 3)) return -2;
        if (slots[x] == null || slots[z] == null) return -6;
        if (widths[x] != widths[z]) return -8;
        long[] from = slots[x].clone();
        if (a[1] < 0 || a[3] < 0 || a[4] < 0 || a[1] + a[4] > from.length || a[3] + a[4] > slots[z].length) return -7;
        for (int i = 0; i < a[4]; i++) slots[z][(int) a[3] + i] = from[y + i];
        return 0;
      }
      default:
        return ask(name, a, x, y, z);
    }
  }

  private long ask(String name, long[] a, int x, int y, int z) {
    Lived l = st == null ? null : live();
    switch (name) {
      case "threads": {
        if (!claim(x)) return -2;
        int b = 0;
        for (int t = 0; t < st.threads.size(); t++) if (st.threads.get(t)[0] == x) b |= 1 << t;
        return b;
      }
      case "strength":
        return thread(x) && year(y) ? l.rows.get(y)[x] : -2;
      case "torn": {
        if (!year(x)) return -2;
        int b = 0;
        for (int t = 0; t < st.threads.size(); t++) if (l.rows.get(x)[t] == 0) b |= 1 << t;
        return b;
      }
      case "tears":
        return !thread(x) ? -2 : least(0, st.years, i -> l.rows.get(i)[x] == 0);
      case "holes":
        return year(x) ? wholes(l.rows.get(x), 0) : -2;
      case "bare":
        return year(x) ? wholes(l.rows.get(x), 1) : -2;
      case "hole":
        return !claim(x) ? -2 : least(0, st.years, i -> (wholes(l.rows.get(i), 0) >> x & 1) == 1);
      case "hung":
        return year(x) ? hung(st, l.rows.get(x)) : -2;
      case "falls":
        return !claim(x) ? -2 : least(0, st.years, i -> !hangs(st, l.rows.get(i), x));
      case "sum":
        return year(x) ? Arrays.stream(l.rows.get(x)).sum() : -2;
      case "strongest":
        return !year(x) ? -2 : top(st.threads.size(), -1, t -> l.rows.get(x)[t]);
      case "weakest":
        return !year(x) ? -2 : top(st.threads.size(), -999, t -> l.rows.get(x)[t] == 0 ? -1000 : -l.rows.get(x)[t]);
      case "loses":
        return ahead(x) ? Arrays.stream(l.rows.get(x)).sum() - Arrays.stream(l.rows.get(x + 1)).sum() : -100000;
      case "frail":
        return st == null ? -2 : least(0, st.years, i -> hung(st, l.rows.get(i)) != all());
      case "stuff": {
        if (!claim(x) || !year(y)) return -2;
        int n = 0;
        for (int t = 0; t < st.threads.size(); t++) if (st.threads.get(t)[0] == x) n += l.rows.get(y)[t];
        return n;
      }
      case "steps":
        return claim(x) && year(y) ? steps(st, l.rows.get(y), x) : -2;
      case "has":
        return !quarrel(x) || !thread(y) ? -2 : l.told.containsKey(x) ? l.told.get(x).share[y] : -1;
      case "pulls":
        return !quarrel(x) ? -2 : l.told.containsKey(x) ? l.told.get(x).pulls : 0;
      case "rips":
        return !quarrel(x) ? -2 : l.told.containsKey(x) ? bits(l.told.get(x).rips) : 0;
      case "through":
        return !quarrel(x) ? -2 : l.told.containsKey(x) ? l.told.get(x).lost : -1;
      case "hem":
        return !quarrel(x) ? -2 : l.told.containsKey(x) ? l.told.get(x).hem : -1;
      case "loud": {
        if (st == null) return -2;
        int b = 0;
        for (int q : l.told.keySet()) if (l.told.get(q).lost > 0) b |= 1 << q;
        return b;
      }
      case "worst":
        return st == null ? -2
            : top(st.quarrels.size(), 0, q -> l.told.containsKey(q) ? l.told.get(q).rips.size() : 0);
      case "bears":
        return !thread(x) ? -2 : l.all.stream().mapToInt(p -> p.share[x]).sum();
      case "worn":
        return !thread(x) ? -2 : l.all.stream().mapToInt(p -> p.wear.get(x)).sum();
      case "idle": {
        if (st == null) return -2;
        int b = (1 << st.threads.size()) - 1;
        for (Pulled p : l.all) for (int t = 0; t < p.share.length; t++) if (p.share[t] > 0) b &= ~(1 << t);
        return b;
      }
      case "tries":
        return claim(x) && in(y, 1, 200) && year(z) ? pull(st, st.law, l.rows.get(z).clone(), x, y).rips.size() : -2;
      case "would":
        return claim(x) && in(y, 1, 200) && year(z) && thread(a[3])
            ? pull(st, st.law, l.rows.get(z).clone(), x, y).share[(int) a[3]] : -2;
      case "lets":
        return claim(x) && in(y, 1, 200) && year(z) ? pull(st, st.law, l.rows.get(z).clone(), x, y).lost : -2;
      case "gate":
        return claim(x) && year(y) ? gate(x, y) : -2;
      case "soft":
        return !year(x) ? -2 : top(st.claims, -1000, c -> gate(c, x) < 0 ? -1000 : -gate(c, x));
      case "bursts":
        return !claim(x) || !year(y) ? -2
            : least(1, 200, n -> pull(st, st.law, l.rows.get(y).clone(), x, n).lost > 0);
      case "word":
        return thread(x) && claim(y) ? word(x, 1 << y) : -2;
      case "darn": {
        if (!claim(x)) return -2;
        int[] w = new int[st.threads.size()];
        for (int t = 0; t < w.length; t++) w[t] = word(t, 1 << x);
        return top(w.length, -1000, t -> w[t] < 0 ? -1000 : -w[t]);
      }
      case "mend":
        return thread(x) ? word(x, all()) : -2;
      case "cut":
        return !claim(x) || !year(y) ? -2 : least(0, 16, n -> cutBy(st, l.rows.get(y).clone(), x, 0, n));
      case "keys": {
        if (!claim(x) || !year(y)) return -2;
        if (!hangs(st, l.rows.get(y), x)) return 0;
        int b = 0;
        for (int t = 0; t < st.threads.size(); t++) {
          int[] r = l.rows.get(y).clone();
          r[t] = 0;
          if (!hangs(st, r, x)) b |= 1 << t;
        }
        return b;
      }
      case "blame":
        return st == null ? -2 : top(st.quarrels.size(), nowHung(),
            q -> Integer.bitCount(lastHung(st.law, holds(), Set.of(), Set.of(q))));
      case "dear":
        return st == null ? -2 : top(st.threads.size(), -nowHung(),
            t -> -Integer.bitCount(lastHung(st.law, holds(), Set.of(t), Set.of())));
      case "worse":
        return st == null ? -2 : top(st.threads.size(), nowHung(),
            t -> Integer.bitCount(lastHung(st.law, holds(), Set.of(t), Set.of())));
      case "fits", "least", "greatest", "ask", "leaves": {
        int bad = rowBad(a[0], thread(y));
        return bad != 0 ? bad : seen(name, x, y);
      }
      case "laws": {
        int bad = rowBad(a[0], st != null);
        if (bad != 0) return bad;
        int b = 0;
        for (int law = 0; law < 4; law++) {
          if (agrees(live(st, law, holds(), Set.of(), Set.of()), slots[x])) b |= 1 << law;
        }
        return b;
      }
      case "by":
        return st == null || !in(x, 0, 3) ? -2 : lastHung(x, holds(), Set.of(), Set.of());
      case "law":
        return st == null ? -2 : top(4, -1, i -> Integer.bitCount(lastHung(i, holds(), Set.of(), Set.of())));
      case "worth":
        return st == null || !in(x, 0, (1 << st.threads.size()) - 1) ? -2
            : Integer.bitCount(lastHung(st.law, holds(), set(((1 << st.threads.size()) - 1) & ~x), Set.of()));
      case "share":
        return !thread(x) || x > 7 || !in(y, 0, 1) ? -1000 : share(x, y);
      case "rests": {
        if (!quarrel(x) || !quarrel(y) || x == y) return -2;
        int b = 0;
        if (gains(x, y, 0, 0) >= gains(x, y, 1, 0) && gains(y, x, 0, 0) >= gains(y, x, 1, 0)) b |= 1;
        if (gains(x, y, 1, 0) >= gains(x, y, 0, 0) && gains(y, x, 0, 1) >= gains(y, x, 1, 1)) b |= 2;
        if (gains(x, y, 0, 1) >= gains(x, y, 1, 1) && gains(y, x, 1, 0) >= gains(y, x, 0, 0)) b |= 4;
        if (gains(x, y, 1, 1) >= gains(x, y, 0, 1) && gains(y, x, 1, 1) >= gains(y, x, 0, 1)) b |= 8;
        return b;
      }
      case "gets":
        return !quarrel(x) || !quarrel(y) || x == y || !in(z, 0, 1) || !in(a[3], 0, 1) ? -1000
            : gains(x, y, z, (int) a[3]);
      case "chance":
        return claim(x) && in(y, 0, 1) ? chances(1 << x, y) : -2;
      case "mean":
        return st != null && in(x, 0, 1) ? chances(all(), x) : -2;
      case "sews":
        return thread(x) && in(y, 1, 60) && ahead(z) ? act(new int[] {0, x, y, z}) : -2;
      case "quarrels":
        return claim(x) && in(y, 1, 90) && ahead(z) ? act(new int[] {1, x, y, z}) : -2;
      case "undo":
        if (st == null) return -2;
        if (st.acts.isEmpty()) return -5;
        st.acts.remove(st.acts.size() - 1);
        return st.acts.size();
      case "anew": {
        if (st == null) return -2;
        int n = st.acts.size();
        st.acts.clear();
        return n;
      }
      case "drawn":
        return st == null || !in(x, 0, 2000000000) || !in(y, 0, 1) ? -2
            : y == 0 ? drawEvening(x) : hungByEvening(drawEvening(x));
      case "luck": {
        if (!claim(z) || !in(x, 0, 2000000000) || !in(y, 1, 20)) return -2;
        int n = 0;
        for (int i = 0; i < y; i++) n += hungByEvening(drawEvening((long) x + i)) >> z & 1;
        return n;
      }
      case "rate": {
        if (!thread(x) || !in(y, 1, 60)) return -2;
        if (!st.acts.isEmpty()) return -5;
        int was = st.threads.get(x)[2];
        st.threads.get(x)[2] = y;
        return was;
      }
      default:
        throw new IllegalStateException(name);
    }
  }

  private int wholes(int[] row, int n) {
    int b = 0;
    for (int c = 0; c < st.claims; c++) {
      int k = 0;
      for (int t = 0; t < row.length; t++) if (st.threads.get(t)[0] == c && row[t] > 0) k++;
      if (k == n) b |= 1 << c;
    }
    return b;
  }
}
