/** The edges of "What it is", of term I and of promises 1 to 8: the tape, the cloth, its faults, what was told. */
public final class TapeEdgesTest {
  private static final String HEAD = "cloth years 2 law 0 odds 5;";
  private static final String ONE = HEAD + "claim;thread 0 to hem holds 10;quarrel 0 by 11 at 0;";

  public static void main(String[] args) {
    calls();
    lines();
    head();
    threadLine();
    quarrelLine();
    numbered();
    tokens();
    faultPlaces();
    faultKinds();
    askedFirst();
    newObject();
    feed();
    end();
    cloth();
    fault();
    told();
    Bench.finish("TapeEdgesTest", 1, 8);
  }

  private static void taken(String text, int lines) {
    new Bench().tell(text).due("cloth()", lines).due("fault(0)", 0).due("fault(1)", -1);
  }

  /** The sign | stands ahead of the byte at which the fault is due. */
  private static void faulty(String text, int fault) {
    String plain = text.replace("|", "");
    new Bench().tell(plain).due("cloth()", -4).due("fault(0)", fault).due("fault(1)", text.indexOf('|'));
  }

  private static void calls() {
    Bench.says("What it is", "An object is used for at most 512 calls after it has been made");
    Bench x = Bench.of(ONE);
    while (x.calls() < 505) x.due("sews(0, 1, 0)", 1).due("undo()", 0);
    while (x.calls() < 511) x.due("sews(0, 60, 0)", 1);
    // 10, 70, then 99 by each, less 2 by the quarrel
    x.due("strength(0, 1)", 97);
    // two objects have nothing in common
    Bench a = Bench.of(ONE);
    Bench b = Bench.of(HEAD + "claim;claim;");
    a.ask("image(0)");
    a.ask("row(0, 0, 3)");
    b.due("back(0)", -6).due("count(9)", 0).due("count(3)", 2).due("darn(0)", -1);
    a.due("count(3)", 1).due("darn(0)", 0);
  }

  // ---- term I

  private static void lines() {
    Bench.says("I", "CLOTH: {LINE ;}.");
    taken("", 0);
    taken("cloth years 2 law 0 odds 5;", 1);
    faulty("cloth years 2 law 0 odds 5|", 1);
    faulty("|;", 1);
    faulty(HEAD + "|;", 1);
    faulty(HEAD + "claim;|;", 1);
    faulty(HEAD + "claim |claim;", 1);
    Bench.says("I", "LINE: cloth years N law N odds N | claim | thread C to END holds N | quarrel C by N at N. "
        + "END: hem | C.");
    everyPlace("", "cloth years 1 law 1 odds 1 ;");
    everyPlace(HEAD, "claim ;");
    everyPlace(HEAD + "claim;claim;", "thread 1 to hem holds 1 ;");
    everyPlace(HEAD + "claim;claim;", "thread 1 to 0 holds 1 ;");
    everyPlace(HEAD + "claim;", "quarrel 0 by 1 at 1 ;");
    Bench.says("I", "cloth is the first LINE and no other");
    taken(HEAD, 1);
    faulty("|claim;" + HEAD, 1);
    faulty("|thread 0 to hem holds 1;" + HEAD, 1);
    faulty("|quarrel 0 by 1 at 0;" + HEAD, 1);
    faulty(HEAD + "|" + HEAD, 1);
    faulty(HEAD + "claim;|" + HEAD, 1);
  }

  /** A line that breaks off at each of its tokens, and one with another token in the place of each. */
  private static void everyPlace(String ahead, String line) {
    String[] tokens = line.split(" ");
    StringBuilder text = new StringBuilder(ahead);
    for (int i = 0; i < tokens.length; i++) {
      if (i > 0) faulty(text + "|", 1);
      for (String other : new String[] {"x", "hum", ";", "7", "cloth", "hem", "claim", "?"}) {
        boolean number = tokens[i].matches("\\d+") || tokens[i].equals("hem");
        boolean fine = other.equals(tokens[i]) || i == 0 && other.equals(ahead.isEmpty() ? "cloth" : "claim")
            || number && other.equals("7") || tokens[i].matches("\\d+") && i == 3 && other.equals("hem");
        if (!fine) faulty(text + "|" + other + " ", 1);
      }
      text.append(tokens[i]).append(' ');
    }
    taken(text.toString(), text.toString().split(";").length - 1);
  }

  private static void head() {
    Bench.says("I", "years 1 .. 12");
    for (int years : new int[] {1, 12}) {
      Bench.of("cloth years " + years + " law 0 odds 0;").due("count(0)", years);
    }
    faulty("cloth years |0 law 0 odds 0;", 2);
    faulty("cloth years |13 law 0 odds 0;", 2);
    Bench.says("I", "law 0 .. 3");
    for (int law = 0; law < 4; law++) Bench.of("cloth years 1 law " + law + " odds 0;").due("count(1)", law);
    faulty("cloth years 1 law |4 odds 0;", 2);
    faulty("cloth years 1 law |-1 odds 0;", 1);
    Bench.says("I", "odds 0 .. 10");
    for (int odds = 0; odds < 11; odds++) Bench.of("cloth years 1 law 0 odds " + odds + ";").due("count(2)", odds);
    faulty("cloth years 1 law 0 odds |11;", 2);
    faulty("cloth years 1 law 0 odds |-1;", 1);
  }

  private static void threadLine() {
    Bench.says("I", "thread: from a CLAIM told ahead to the HEM");
    taken(HEAD + "claim;thread 0 to hem holds 1;", 3);
    taken(HEAD + "claim;claim;thread 1 to hem holds 1;", 4);
    faulty(HEAD + "thread |0 to hem holds 1;", 2);
    faulty(HEAD + "claim;thread |1 to hem holds 1;claim;", 2);
    faulty(HEAD + "claim;".repeat(8) + "thread |8 to hem holds 1;", 2);
    taken(HEAD + "claim;".repeat(8) + "thread 7 to hem holds 1;", 10);
    Bench.says("I", "or to a CLAIM of a lesser number");
    taken(HEAD + "claim;claim;thread 1 to 0 holds 1;", 4);
    taken(HEAD + "claim;claim;claim;thread 2 to 1 holds 1;thread 2 to 0 holds 1;", 6);
    faulty(HEAD + "claim;thread 0 to |0 holds 1;", 2);
    faulty(HEAD + "claim;claim;thread 1 to |1 holds 1;", 2);
    faulty(HEAD + "claim;claim;thread 0 to |1 holds 1;", 2);
    faulty(HEAD + "claim;claim;claim;thread 1 to |2 holds 1;", 2);
    Bench.says("I", "holds 1 .. 60");
    Bench.of(HEAD + "claim;thread 0 to hem holds 1;").due("thread(0, 2)", 1);
    Bench.of(HEAD + "claim;thread 0 to hem holds 60;").due("thread(0, 2)", 60);
    faulty(HEAD + "claim;thread 0 to hem holds |0;", 2);
    faulty(HEAD + "claim;thread 0 to hem holds |61;", 2);
    Bench.says("I", "there may be several alike");
    Bench x = Bench.of(HEAD + "claim;" + "thread 0 to hem holds 7;".repeat(3));
    x.due("count(4)", 3).due("sum(0)", 21).due("threads(0)", 7).due("cut(0, 0)", 3);
  }

  private static void quarrelLine() {
    Bench.says("I", "quarrel: at a CLAIM told ahead");
    taken(HEAD + "claim;quarrel 0 by 1 at 0;", 3);
    taken(HEAD + "claim;".repeat(8) + "quarrel 7 by 1 at 0;", 10);
    faulty(HEAD + "quarrel |0 by 1 at 0;", 2);
    faulty(HEAD + "claim;quarrel |1 by 1 at 0;claim;", 2);
    faulty(HEAD + "claim;quarrel |hem by 1 at 0;", 1);
    Bench.says("I", "by 1 .. 90");
    Bench.of(HEAD + "claim;quarrel 0 by 1 at 0;").due("quarrel(0, 1)", 1);
    Bench.of(HEAD + "claim;quarrel 0 by 90 at 0;").due("quarrel(0, 1)", 90);
    faulty(HEAD + "claim;quarrel 0 by |0 at 0;", 2);
    faulty(HEAD + "claim;quarrel 0 by |91 at 0;", 2);
    Bench.says("I", "at 0 .. 11");
    Bench.of(HEAD + "claim;quarrel 0 by 1 at 0;").due("quarrel(0, 2)", 0);
    Bench.of(HEAD + "claim;quarrel 0 by 1 at 11;").due("quarrel(0, 2)", 11);
    faulty(HEAD + "claim;quarrel 0 by 1 at |12;", 2);
  }

  private static void numbered() {
    Bench.says("I", "CLAIMS 0 .. 7, THREADS 0 .. 15, QUARRELS 0 .. 9 are numbered as they stand");
    StringBuilder text = new StringBuilder(HEAD);
    for (int i = 0; i < 16; i++) {
      if (i < 8) text.append("claim;");
      text.append("thread ").append(Math.min(i, 7)).append(" to hem holds ").append(i + 1).append(';');
      if (i < 10) text.append("quarrel 0 by ").append(i + 1).append(" at ").append(i).append(';');
    }
    Bench x = Bench.of(text.toString());
    x.due("count(3)", 8).due("count(4)", 16).due("count(5)", 10).due("count(7)", 35);
    for (int i = 0; i < 16; i++) {
      x.due("thread(" + i + ", 2)", i + 1).due("thread(" + i + ", 0)", Math.min(i, 7));
      if (i < 7) x.due("threads(" + i + ")", 1 << i);
      if (i < 10) x.due("quarrel(" + i + ", 1)", i + 1).due("quarrel(" + i + ", 2)", i);
    }
    x.due("threads(7)", 0xff80);
    x.beyond("threads(%)", -2, 8).beyond("thread(%, 0)", -2, 16).beyond("quarrel(%, 0)", -2, 10).unmoved();
    Bench.says("I", "YEARS 0 .. years.");
    for (int years : new int[] {1, 2, 12}) {
      Bench y = Bench.of("cloth years " + years + " law 0 odds 0;claim;thread 0 to hem holds 9;");
      for (int year = 0; year <= years; year++) y.due("strength(0, " + year + ")", 9);
      y.beyond("strength(0, %)", -2, years + 1);
    }
  }

  private static void tokens() {
    Bench.says("I", "TOKENS, blanks (32, 10) aside");
    taken(" \n cloth\nyears \n\n 2 law\n0\nodds 5\n;\n claim \n ; ", 2);
    taken(" ", 0);
    taken("\n", 0);
    // a blank parts a word, and a number
    faulty(HEAD + "|cl aim;", 1);
    faulty(HEAD + "claim;thread 0 to hem holds 1 |2;", 1);
    Bench.says("I", "the longest: words (a .. z), numbers (digits), the sign ;");
    taken("cloth years12law3odds10;claim;claim;thread1to0holds60;quarrel0by90at11;", 5);
    for (int b = 0; b < 256; b++) {
      char c = (char) b;
      boolean letter = c >= 'a' && c <= 'z';
      boolean digit = c >= '0' && c <= '9';
      if (c == '|') continue;
      String word = HEAD + "?claim" + c + ";";
      String number = HEAD + "claim;thread 0 to hem holds 1" + c + ";";
      if (c == ' ' || c == '\n') {
        taken(word.replace("?", ""), 2);
        taken(number, 3);
      } else {
        // a letter makes another word of it; all else stands behind it, and can't
        faulty(letter ? word.replace("?", "|") : c == ';' ? HEAD + "claim;|;" : HEAD + "claim|" + c + ";", 1);
        if (digit) taken(number, 3);
        else faulty(HEAD + "claim;thread 0 to hem holds 1" + (c == ';' ? ";|;" : "|" + c + ";"), 1);
      }
    }
  }

  private static void faultPlaces() {
    Bench.says("I", "FAULTS, the first by its place (a TOKEN's first byte; the end's)");
    faulty("cloth years |13 law 4 odds 11;", 2);
    faulty("cloth years 12 law |4 odds 11;", 2);
    faulty(HEAD + "claim;thread 0 to |0 holds 61;quarrel", 2);
    faulty(HEAD + "claim;thread 0 |two 0 holds 61;", 1);
    faulty(HEAD + "claim;quarrel 0 by |91 at 12;?", 2);
    faulty(HEAD + "  |claims;", 1);
    faulty("cloth|", 1);
    faulty("cloth years 2 law 0 odds 5 \n  |", 1);
    faulty(HEAD + "claim   |", 1);
    faulty(HEAD + "claim;thread 0 to hem holds |99", 2);
    faulty(HEAD + "claim;thread 0 to hem holds 9|", 1);
    Bench.says("I", "of one place the least");
    // a number that can't stand there, and is out of any bounds
    faulty("cloth |99 years 1 law 0 odds 0;", 1);
    faulty("cloth years 1 |99 law 0 odds 0;", 1);
    faulty(HEAD + "claim |99;", 1);
    faulty(HEAD + "|99999999999;", 1);
    faulty(HEAD + "claim;thread 0 |99 to hem holds 1;", 1);
  }

  private static void faultKinds() {
    Bench.says("I", "1 a TOKEN that is none, or can't stand there (cloth behind the first LINE, another word ahead of it)");
    faulty("|?", 1);
    faulty("|\u00ff", 1);
    faulty("|x;", 1);
    faulty("|hem", 1);
    faulty("|clot years 1 law 0 odds 0;", 1);
    faulty("|cloths years 1 law 0 odds 0;", 1);
    faulty(HEAD + "|cloth", 1);
    faulty(HEAD + "|hem;", 1);
    faulty(HEAD + "|to", 1);
    // each word with another letter in each place, one less, one more
    String[] lines = {"cloth years 1 law 1 odds 1;", "claim;", "thread 0 to hem holds 1;", "quarrel 0 by 1 at 0;"};
    for (int i = 0; i < 4; i++) everyLetter(i == 0 ? "" : HEAD + (i == 1 ? "" : "claim;"), lines[i]);
    Bench.says("I", "2 a number out of its bounds, not as said");
    for (String big : new String[] {"2147483648", "4294967297", "18446744073709551617", "1000000", "10000001",
        "9".repeat(700)}) {
      faulty("cloth years |" + big + " law 0 odds 0;", 2);
    }
    Bench.of("cloth years " + "0".repeat(700) + "12 law 0 odds 0;").due("count(0)", 12);
    faulty("cloth years |" + "0".repeat(700) + " law 0 odds 0;", 2);
    Bench.says("I", "3 a 9th claim, 17th thread, 11th quarrel, at its word");
    String claims = HEAD + "claim;".repeat(8);
    String threads = HEAD + "claim;" + "thread 0 to hem holds 5;".repeat(16);
    String quarrels = HEAD + "claim;" + "quarrel 0 by 5 at 0;".repeat(10);
    taken(claims, 9);
    faulty(claims + "|claim;", 3);
    faulty(claims + "|claim", 3);
    faulty(claims + "|claim 99", 3);
    faulty(claims + "|claims;", 1);
    taken(threads, 18);
    faulty(threads + "|thread 0 to hem holds 5;", 3);
    faulty(threads + "|thread", 3);
    faulty(threads + "|thread 1 to 1 holds 99;", 3);
    taken(quarrels, 12);
    faulty(quarrels + "|quarrel 0 by 5 at 0;", 3);
    faulty(quarrels + "|quarrel", 3);
    faulty(quarrels + "|quarrel 1 by 99 at 99;", 3);
    // a fault ahead of it is the first
    faulty(claims + "thread 0 to |0 holds 5;claim;", 2);
  }

  private static void everyLetter(String ahead, String line) {
    for (int i = 0; i < line.length(); i++) {
      if (!Character.isLetter(line.charAt(i))) continue;
      int start = i;
      while (start > 0 && Character.isLetter(line.charAt(start - 1))) start--;
      String before = ahead + line.substring(0, start) + "|" + line.substring(start, i);
      String behind = line.substring(i + 1);
      faulty(before + (char) (line.charAt(i) == 'z' ? 'a' : line.charAt(i) + 1) + behind, 1);
      faulty(before + line.charAt(i) + line.charAt(i) + behind, 1);
      boolean oneLetter = start == i && !Character.isLetter(line.charAt(i + 1));
      if (!oneLetter) faulty(before + behind, 1);
    }
  }

  private static void askedFirst() {
    Bench.says("I", "SLOTS 0 .. 3 have rows of numbers of 1, 2, 4 or 8 bytes (WIDTH 0 .. 3), at most 60, or nothing.");
    Bench rows = new Bench();
    for (int slot = 0; slot < 4; slot++) {
      rows.due("write(" + slot + ", 0, 0)", -6).due("row(" + slot + ", " + slot + ", 60)", 0).due("count(9)", slot + 1);
      rows.due("write(" + slot + ", 59, 0)", 0).refused("write(" + slot + ", 60, 0)", -7);
    }
    rows.refused("row(0, 0, 61)", -2).beyond("row(%, 0, 1)", -2, 4).beyond("row(0, %, 1)", -2, 4);
    rows.beyond("write(%, 0, 0)", -2, 4).unmoved();
    Bench.says("I", "-2 (-1,000) is asked ahead of -5, -6.");
    Bench x = Bench.of(ONE);
    for (int i = 0; i < 30; i++) x.ask("sews(0, 60, 0)");
    x.refused("sews(1, 60, 0)", -2).refused("sews(0, 61, 0)", -2).refused("sews(0, 60, 2)", -2);
    x.refused("quarrels(1, 90, 0)", -2).refused("quarrels(0, 91, 0)", -2).refused("quarrels(0, 90, 2)", -2);
    x.refused("sews(0, 60, 0)", -5).refused("quarrels(0, 90, 0)", -5);
    x.refused("rate(1, 5)", -2).refused("rate(0, 0)", -2).refused("rate(0, 61)", -2).refused("rate(0, 5)", -5);
    x.refused("fits(4, 0)", -2).refused("fits(0, 1)", -2).refused("fits(0, 0)", -6);
    x.refused("back(3)", -2).refused("back(0)", -6);
    x.unmoved();
    new Bench().due("undo()", -2).due("laws(0)", -2).due("fits(0, 0)", -2).due("rate(0, 5)", -2);
  }

  // ---- promises 1 to 8

  private static void newObject() {
    Bench.says(1, "No CLOTH.");
    Bench x = new Bench();
    for (int what = 0; what < 10; what++) x.due("count(" + what + ")", 0);
    for (String call : new String[] {"thread(0, 0)", "quarrel(0, 0)", "threads(0)", "strength(0, 0)", "torn(0)",
        "tears(0)", "holes(0)", "hole(0)", "hung(0)", "falls(0)", "sum(0)", "strongest(0)", "weakest(0)", "bare(0)",
        "frail()", "stuff(0, 0)", "steps(0, 0)", "has(0, 0)", "pulls(0)", "rips(0)", "through(0)", "hem(0)", "loud()",
        "worst()", "bears(0)", "worn(0)", "idle()", "tries(0, 1, 0)", "would(0, 1, 0, 0)", "lets(0, 1, 0)",
        "gate(0, 0)", "soft(0)", "bursts(0, 0)", "word(0, 0)", "darn(0)", "mend(0)", "cut(0, 0)", "keys(0, 0)",
        "blame()", "dear()", "worse()", "fits(0, 0)", "least(0, 0)", "greatest(0, 0)", "ask(0, 0)", "leaves(0, 0)",
        "laws(0)", "by(0)", "law()", "worth(0)", "rests(0, 1)", "chance(0, 0)", "mean(0)", "sews(0, 1, 0)",
        "quarrels(0, 1, 0)", "undo()", "anew()", "drawn(0, 0)", "luck(0, 1, 0)", "rate(0, 1)"}) {
      x.refused(call, -2);
    }
    x.refused("loses(0)", -100000).refused("share(0, 0)", -1000).refused("gets(0, 1, 0, 0)", -1000);
    for (int k = 0; k < 3; k++) x.refused("back(" + k + ")", -6);
    for (int slot = 0; slot < 4; slot++) x.refused("write(" + slot + ", 0, 0)", -6);
    x.refused("paste(0, 0, 0, 0, 0)", -6).refused("end(1)", -1);
    x.due("fault(0)", 0).due("fault(1)", -1);
    x.unmoved();
    // the same once there was a cloth
    Bench gone = Bench.of(ONE);
    gone.due("cloth()", 0).due("hung(0)", -2).due("strength(0, 0)", -2).due("anew()", -2).due("by(0)", -2);
    gone.due("worth(0)", -2).due("threads(0)", -2).due("loses(0)", -100000).due("darn(0)", -2).due("mean(0)", -2);
  }

  private static void feed() {
    Bench.says(2, "Twenty bytes come behind the TAPE, four of each number, the highest first: how many it has");
    Bench x = new Bench();
    // "clot", "h ye", "ars ", "2 la", "w 0 ", then "odds", " 5; ": and one byte of 255 at each place
    x.due("feed(1668050804, 1746958693, 1634890528, 840985697, 1998598176)", 20);
    x.due("feed(1868850291, 540359456, 538976288, 538976288, 538976288)", 40).due("cloth()", 1);
    for (int place = 0; place < 20; place++) {
      StringBuilder text = new StringBuilder(" ".repeat(20));
      text.setCharAt(place, (char) 255);
      x.tell(text.toString()).due("cloth()", -4).due("fault(1)", place);
    }
    x.due("feed(538976288, 538976288, 538976288, 538976288, 538976288)", 20).due("end(7)", 7);
    x.due("feed(-1, -1, -1, -1, -1)", 27).due("cloth()", -4).due("fault(1)", 7);
    Bench.says(2, "NONE, and none come, if it would have more than 800");
    Bench full = new Bench();
    for (int i = 1; i <= 40; i++) full.due("feed(538976288, 538976288, 538976288, 538976288, 538976288)", 20 * i);
    full.refused("feed(-1, -1, -1, -1, -1)", -1).due("count(8)", 800).due("end(781)", 781);
    full.refused("feed(-1, -1, -1, -1, -1)", -1).due("count(8)", 781).due("end(780)", 780);
    full.due("feed(-1, -1, -1, -1, -1)", 800).due("cloth()", -4).due("fault(1)", 780);
    Bench blank = new Bench();
    for (int i = 1; i <= 40; i++) blank.due("feed(538976288, 538976288, 538976288, 538976288, 538976288)", 20 * i);
    blank.refused("feed(-1, -1, -1, -1, -1)", -1);
    blank.due("cloth()", 0);
    Bench last = Bench.of(ONE);
    last.tell(" ".repeat(781));
    last.refused("feed(-1, -1, -1, -1, -1)", -1).unmoved();
  }

  private static void end() {
    Bench.says(3, "The TAPE has its first n bytes alone: n");
    Bench x = new Bench();
    x.tell(HEAD + "claim;").due("end(33)", 33).due("count(8)", 33).due("end(27)", 27).due("cloth()", 1);
    x.tell(HEAD).due("end(0)", 0).due("count(8)", 0).due("cloth()", 0);
    x.tell(HEAD).due("end(26)", 26).due("cloth()", -4).due("fault(1)", 26);
    x.due("end(0)", 0);
    // cut within a number and within a word: what was behind it is gone
    x.tell("cloth years 12 law").due("end(13)", 13).due("cloth()", -4).due("fault(0)", 1).due("fault(1)", 13);
    x.tell("cloth years 99 law").due("end(13)", 13).due("cloth()", -4).due("fault(0)", 1).due("fault(1)", 13);
    x.tell("cloth years").due("end(4)", 4).due("cloth()", -4).due("fault(0)", 1).due("fault(1)", 0);
    x.tell("cloth years").due("end(5)", 5).due("cloth()", -4).due("fault(0)", 1).due("fault(1)", 5);
    x.tell(HEAD + "claim").due("end(27)", 27).due("cloth()", 1);
    x.tell("  x").due("end(2)", 2).due("cloth()", 0);
    // what comes then stands right behind it
    x.tell("cloth years 19").due("end(13)", 13).due("feed(840985697, 1998598176, 1868850291, 540031776, 538976288)", 33);
    x.due("cloth()", 1).due("count(0)", 12);
    Bench.says(3, "NONE, and nothing happens, if it has not so many, or n is below 0");
    Bench y = new Bench();
    y.refused("end(1)", -1).refused("end(-1)", -1);
    y.tell(HEAD + "claim;");
    y.refused("end(34)", -1).refused("end(-1)", -1).refused("end(MAX)", -1).refused("end(MIN)", -1);
    y.due("count(8)", 33).unmoved();
    Bench cut = new Bench();
    cut.tell(HEAD + "claim;").due("end(27)", 27).refused("end(28)", -1).refused("end(33)", -1).due("cloth()", 1);
  }

  private static void cloth() {
    Bench.says(4, "The TAPE (empty then) is the CLOTH (in place of another), nothing done: how many LINES");
    Bench x = Bench.of(HEAD + "claim;claim;thread 1 to 0 holds 9;thread 0 to hem holds 9;quarrel 0 by 10 at 0;");
    x.due("count(8)", 0).due("count(7)", 6).due("count(6)", 0);
    x.ask("sews(0, 1, 0)");
    x.tell("cloth years 3 law 1 odds 6;claim;thread 0 to hem holds 8;").due("cloth()", 3).due("count(8)", 0);
    int[] counts = {3, 1, 6, 1, 1, 0, 0, 3};
    for (int what = 0; what < 8; what++) x.due("count(" + what + ")", counts[what]);
    x.due("sum(0)", 8).due("strength(0, 3)", 8).due("thread(1, 0)", -2).due("quarrel(0, 0)", -2).due("hung(3)", 1);
    // by the last of 800 bytes
    taken(HEAD + "claim;".repeat(4) + " ".repeat(743) + "claim;", 6);
    faulty(HEAD + "claim;".repeat(4) + " ".repeat(744) + "claim|", 1);
    taken(HEAD + "claim;".repeat(8) + "thread 0 to hem holds 60;".repeat(16) + "quarrel 0 by 90 at 11;".repeat(10), 35);
    faulty(" ".repeat(799) + "|7", 1);
    faulty(" ".repeat(799) + "|x", 1);
    faulty("cloth years" + " ".repeat(788) + "1|", 1);
    Bench.says(4, "(0: there is none then)");
    Bench was = Bench.of("cloth years 7 law 3 odds 9;claim;thread 0 to hem holds 9;quarrel 0 by 1 at 0;");
    was.ask("sews(0, 1, 0)");
    was.due("cloth()", 0);
    for (int what = 0; what < 10; what++) was.due("count(" + what + ")", 0);
    Bench gone = Bench.of(ONE);
    gone.due("cloth()", 0).due("count(7)", 0).due("hung(0)", -2).due("fault(0)", 0).due("fault(1)", -1);
    Bench blanks = Bench.of(ONE);
    blanks.tell(" \n ").due("cloth()", 0).due("count(3)", 0).due("frail()", -2).due("count(8)", 0);
    Bench.says(4, "-4: a FAULT (all stays)");
    Bench y = Bench.of(ONE);
    y.ask("image(1)");
    y.ask("sews(0, 5, 0)");
    y.ask("quarrels(0, 3, 1)");
    y.see(0, 0, 0, 1, 12);
    y.tell("cloth years 5 law 3 odds 9;claim;claim;thread 1 to 0 holds 4;quarrel 1 by 4 at 0;claim");
    y.due("cloth()", -4).due("count(8)", 0);
    int[] stay = {2, 0, 5, 1, 1, 1, 2, 4, 0, 1};
    for (int what = 0; what < 10; what++) y.due("count(" + what + ")", stay[what]);
    // 15 less 2
    y.due("strength(0, 1)", 13).due("strength(0, 2)", 13).due("hung(2)", 1).due("thread(0, 0)", 0);
    y.due("quarrel(0, 1)", 11).due("fits(0, 0)", 1).due("undo()", 1).due("undo()", 0).due("hung(2)", 0);
    y.due("back(1)", 0).due("hung(1)", 0);
    Bench none = new Bench();
    none.tell("claim").due("cloth()", -4).due("count(7)", 0).due("hung(0)", -2);
  }

  private static void fault() {
    Bench.says(5, "Of the latest cloth(), what 0: its FAULT, 0 without, 1: its place (NONE without)");
    Bench x = new Bench();
    x.tell(HEAD + "claim;".repeat(9)).due("cloth()", -4).due("fault(0)", 3).due("fault(1)", 75);
    x.tell("x").due("fault(0)", 3).due("cloth()", -4).due("fault(0)", 1).due("fault(1)", 0);
    x.tell("cloth years 0").due("cloth()", -4).due("fault(0)", 2).due("fault(1)", 12);
    x.tell(HEAD).due("cloth()", 1).due("fault(0)", 0).due("fault(1)", -1);
    x.tell("x").due("cloth()", -4).due("cloth()", 0).due("fault(0)", 0).due("fault(1)", -1);
    Bench.says(5, "NONE for another what, and ahead of any (what 1)");
    Bench y = new Bench();
    y.due("fault(0)", 0).due("fault(1)", -1).due("fault(2)", -1).due("fault(-1)", -1);
    y.tell("x").ask("cloth()");
    y.due("fault(0)", 1).due("fault(1)", 0);
    y.each("fault(%)", -1, -1, 2, 3, Integer.MIN_VALUE, Integer.MAX_VALUE);
  }

  private static void told() {
    Bench x = Bench.of("cloth years 1 law 0 odds 0;claim;claim;claim;thread 0 to hem holds 60;thread 1 to 0 holds 1;"
        + "thread 1 to hem holds 7;quarrel 1 by 90 at 11;quarrel 0 by 1 at 0;");
    Bench.says(6, "what 0: its CLAIM, 1: the CLAIM to which it leads (NONE: the HEM), 2: holds");
    x.due("thread(0, 0)", 0).due("thread(0, 1)", -1).due("thread(0, 2)", 60);
    x.due("thread(1, 0)", 1).due("thread(1, 1)", 0).due("thread(1, 2)", 1);
    x.due("thread(2, 0)", 1).due("thread(2, 1)", -1).due("thread(2, 2)", 7);
    Bench.says(6, "-2: there are none such");
    x.beyond("thread(%, 0)", -2, 3).beyond("thread(%, 2)", -2, 3).beyond("thread(0, %)", -2, 3);
    Bench.says(7, "what 0: its CLAIM, 1: its pull, 2: its YEAR");
    x.due("quarrel(0, 0)", 1).due("quarrel(0, 1)", 90).due("quarrel(0, 2)", 11);
    x.due("quarrel(1, 0)", 0).due("quarrel(1, 1)", 1).due("quarrel(1, 2)", 0);
    Bench.says(7, "-2: there are none such");
    x.beyond("quarrel(%, 0)", -2, 2).beyond("quarrel(%, 2)", -2, 2).beyond("quarrel(0, %)", -2, 3);
    // one of an act is none that was told
    x.ask("quarrels(0, 1, 0)");
    x.refused("quarrel(2, 0)", -2);
    Bench.says(8, "THREADS of a CLAIM, as bits");
    x.due("threads(0)", 1).due("threads(1)", 6).due("threads(2)", 0);
    Bench.of("cloth years 1 law 0 odds 0;claim;" + "thread 0 to hem holds 1;".repeat(16)).due("threads(0)", 65535);
    Bench.says(8, "-2: there is none such");
    x.beyond("threads(%)", -2, 3);
    x.unmoved();
  }
}
