/** The edges of promises 62 to 65 and 68 to 74: acts, counts, images, slots. */
public final class ActEdgesTest {
  private static final String ONE = "cloth years 2 law 1 odds 5;claim;thread 0 to hem holds 10;quarrel 0 by 11 at 0;";
  private static final String BARE = "cloth years 2 law 0 odds 0;";
  /** Nothing happens to the one thread, so a strength that was seen of it is the one told. */
  private static final String STILL = "cloth years 2 law 0 odds 0;claim;thread 0 to hem holds 12;";

  public static void main(String[] args) {
    sews();
    quarrels();
    thirty();
    undo();
    anew();
    rate();
    count();
    image();
    back();
    rowTaken();
    rowRefused();
    writeTaken();
    writeRefused();
    pasteTaken();
    pasteRefused();
    Bench.finish("ActEdgesTest", 62, 65, 68, 74);
  }

  // ---- promises 62 to 65

  private static void sews() {
    Bench.says(62, "A word of n (1 .. 60) is let in to a THREAD in a YEAR ahead of the last: CLAIMS HUNG in the last YEAR "
        + "then, as bits.");
    Bench x = Bench.of(ONE);
    x.due("sews(0, 1, 0)", 1).due("strength(0, 1)", 9).due("count(6)", 1).due("undo()", 0);
    x.due("sews(0, 60, 0)", 1).due("strength(0, 1)", 68).due("undo()", 0);
    x.due("sews(0, 1, 1)", 1).due("strength(0, 1)", 0).due("strength(0, 2)", 1).due("undo()", 0);
    x.due("sews(0, 60, 1)", 1).due("strength(0, 2)", 60).due("thread(0, 2)", 10);
    Bench y = Bench.of("cloth years 1 law 0 odds 0;claim;" + "thread 0 to hem holds 1;".repeat(16));
    y.due("sews(15, 1, 0)", 1).due("strength(15, 1)", 2).due("strength(14, 1)", 1).due("sews(0, 1, 1)", -2);
    Bench far = Bench.of("cloth years 12 law 0 odds 0;claim;claim;thread 1 to hem holds 1;");
    far.due("sews(0, 1, 11)", 2).due("strength(0, 12)", 2).due("strength(0, 11)", 1).due("sews(0, 1, 12)", -2);
    Bench.says(62, "-2: there are none such");
    x.refused("sews(0, 0, 0)", -2).refused("sews(0, 61, 0)", -2).refused("sews(0, -1, 0)", -2);
    x.refused("sews(0, MIN, 0)", -2).refused("sews(0, MAX, 0)", -2);
    x.beyond("sews(%, 1, 0)", -2, 1).beyond("sews(0, 1, %)", -2, 2).refused("sews(0, 1, 3)", -2).unmoved();
    Bench.of(BARE).due("sews(0, 1, 0)", -2);
    new Bench().due("sews(0, 1, 0)", -2);
  }

  private static void quarrels() {
    Bench.says(63, "A QUARREL more at a CLAIM, of n (1 .. 90), in a YEAR ahead of the last: likewise.");
    Bench x = Bench.of(STILL);
    x.due("quarrels(0, 1, 0)", 1).due("bears(0)", 1).due("undo()", 0);
    x.due("quarrels(0, 12, 1)", 1).due("strength(0, 2)", 10).due("strength(0, 1)", 12).due("undo()", 0);
    x.due("quarrels(0, 13, 1)", 0).due("strength(0, 1)", 12).due("strength(0, 2)", 0).due("undo()", 0);
    x.due("quarrels(0, 90, 0)", 0).due("strength(0, 1)", 0).due("count(6)", 1).due("count(5)", 0);
    Bench far = Bench.of("cloth years 12 law 0 odds 0;" + "claim;".repeat(8) + "thread 7 to hem holds 9;");
    far.due("quarrels(7, 9, 11)", 128).due("strength(0, 12)", 8).due("strength(0, 11)", 9);
    far.due("quarrels(7, 9, 12)", -2);
    Bench.says(63, "-2, -5 likewise.");
    x.refused("quarrels(0, 0, 0)", -2).refused("quarrels(0, 91, 0)", -2).refused("quarrels(0, -1, 0)", -2);
    x.refused("quarrels(0, MIN, 0)", -2).refused("quarrels(0, MAX, 0)", -2);
    x.beyond("quarrels(%, 1, 0)", -2, 1).beyond("quarrels(0, 1, %)", -2, 2).refused("quarrels(0, 1, 3)", -2).unmoved();
    Bench full = Bench.of(STILL);
    for (int i = 0; i < 30; i++) full.due("quarrels(0, 1, 1)", 1);
    full.refused("quarrels(0, 1, 1)", -5).refused("quarrels(0, 90, 0)", -5).due("count(6)", 30).due("bears(0)", 30);
    full.unmoved();
    Bench.of(BARE).due("quarrels(0, 1, 0)", -2);
    new Bench().due("quarrels(0, 1, 0)", -2);
  }

  private static void thirty() {
    Bench.says(62, "-5: there were 30 acts");
    Bench x = Bench.of(STILL);
    for (int i = 0; i < 29; i++) x.due(i % 2 == 0 ? "sews(0, 1, 0)" : "quarrels(0, 1, 1)", 1);
    x.due("sews(0, 1, 0)", 1).due("count(6)", 30).due("strength(0, 1)", 28).due("bears(0)", 14);
    x.refused("sews(0, 1, 0)", -5).refused("quarrels(0, 90, 0)", -5).due("count(6)", 30).due("strength(0, 1)", 28);
    x.due("undo()", 29).due("strength(0, 1)", 27).due("quarrels(0, 90, 0)", 0).refused("sews(0, 60, 1)", -5);
    x.unmoved();
    Bench y = Bench.of(STILL);
    for (int i = 0; i < 30; i++) y.ask("sews(0, 1, 0)");
    y.refused("sews(0, 1, 0)", -5).due("anew()", 30).due("sews(0, 1, 0)", 1).due("count(6)", 1);
    // another cloth has none of them
    for (int i = 0; i < 29; i++) y.ask("sews(0, 1, 0)");
    y.refused("sews(0, 1, 0)", -5).tell(STILL).due("cloth()", 3).due("sews(0, 1, 0)", 1).due("count(6)", 1);
  }

  private static void undo() {
    Bench.says(64, "The latest act is taken back: how many there are.");
    Bench x = Bench.of(STILL);
    x.ask("sews(0, 1, 0)");
    x.ask("quarrels(0, 90, 1)");
    x.ask("sews(0, 2, 0)");
    x.due("strength(0, 1)", 15).due("undo()", 2).due("strength(0, 1)", 13).due("hung(2)", 0).due("undo()", 1);
    x.due("hung(2)", 1).due("strength(0, 2)", 13).due("undo()", 0).due("strength(0, 2)", 12).due("count(6)", 0);
    Bench.says(64, "-2: there is no CLOTH; -5: there is none.");
    x.refused("undo()", -5).refused("undo()", -5).unmoved();
    Bench.of(BARE).due("undo()", -5);
    new Bench().due("undo()", -2);
    // with the cloth its acts are gone
    Bench y = Bench.of(STILL);
    y.ask("sews(0, 1, 0)");
    y.due("cloth()", 0).refused("undo()", -2).unmoved();
  }

  private static void anew() {
    Bench.says(65, "All are: how many there were.");
    Bench x = Bench.of(ONE);
    x.due("anew()", 0).due("sews(0, 1, 0)", 1).due("quarrels(0, 1, 1)", 1).due("anew()", 2).due("count(6)", 0);
    x.due("hung(2)", 0).due("strength(0, 1)", 0).due("anew()", 0).due("undo()", -5).due("rate(0, 11)", 10);
    for (int i = 0; i < 30; i++) x.ask("sews(0, 1, 0)");
    x.due("anew()", 30).due("anew()", 0).due("strength(0, 1)", 9);
    Bench.of(BARE).due("anew()", 0);
    Bench.says(65, "-2 likewise.");
    new Bench().due("anew()", -2);
    Bench y = Bench.of(STILL);
    y.ask("sews(0, 1, 0)");
    y.due("cloth()", 0).refused("anew()", -2).unmoved();
  }

  // ---- promises 68 and 69

  private static void rate() {
    Bench.says(68, "holds of a THREAD is n (1 .. 60) from now on: what it was.");
    Bench x = Bench.of(ONE);
    x.due("rate(0, 60)", 10).due("thread(0, 2)", 60).due("strength(0, 0)", 60).due("strength(0, 1)", 58).due("hung(2)", 1);
    x.due("rate(0, 1)", 60).due("thread(0, 2)", 1).due("strength(0, 0)", 1).due("hung(2)", 0).due("word(0, 0)", 10);
    x.due("rate(0, 1)", 1).due("count(6)", 0).due("undo()", -5);
    Bench all = Bench.of("cloth years 1 law 0 odds 0;claim;" + "thread 0 to hem holds 5;".repeat(16));
    all.due("rate(15, 7)", 5).due("sum(0)", 82).due("strength(15, 1)", 7).due("strength(14, 1)", 5);
    Bench.says(68, "-2: there are none such; -5: there are acts that are not taken back.");
    x.refused("rate(0, 0)", -2).refused("rate(0, 61)", -2).refused("rate(0, -1)", -2).refused("rate(0, MAX)", -2);
    x.refused("rate(0, MIN)", -2).beyond("rate(%, 5)", -2, 1);
    x.due("sews(0, 60, 0)", 1).refused("rate(0, 5)", -5).refused("rate(0, 61)", -2).refused("rate(1, 5)", -2);
    x.due("quarrels(0, 1, 0)", 1).due("undo()", 1).refused("rate(0, 5)", -5).due("thread(0, 2)", 1);
    x.due("undo()", 0).due("rate(0, 5)", 1).due("quarrels(0, 1, 0)", 0).refused("rate(0, 6)", -5);
    x.due("anew()", 1).due("rate(0, 6)", 5).unmoved();
    Bench.of(BARE).due("rate(0, 5)", -2);
    new Bench().due("rate(0, 5)", -2);
  }

  private static void count() {
    Bench.says(69, "0 years, 1 LAW, 2 odds, 3 CLAIMS, 4 THREADS, 5 QUARRELS told, 6 acts, 7 LINES, 8 bytes of the TAPE, "
        + "9 SLOTS that have a row.");
    Bench x = Bench.of("cloth years 7 law 2 odds 9;claim;claim;thread 0 to hem holds 10;" + "quarrel 0 by 1 at 0;".repeat(3));
    x.ask("quarrels(0, 1, 0)");
    x.tell("thirteen here");
    x.ask("row(3, 0, 0)");
    x.ask("row(1, 3, 60)");
    int[] due = {7, 2, 9, 2, 1, 3, 1, 7, 13, 2};
    for (int what = 0; what < 10; what++) x.due("count(" + what + ")", due[what]);
    Bench full = Bench.of("cloth years 12 law 3 odds 10;" + "claim;".repeat(8) + "thread 7 to hem holds 5;".repeat(16)
        + "quarrel 0 by 9 at 9;".repeat(10));
    for (int i = 0; i < 30; i++) full.ask("sews(0, 1, 0)");
    full.tell(" ".repeat(800));
    for (int slot = 0; slot < 4; slot++) full.due("row(" + slot + ", 0, 0)", 0).due("count(9)", slot + 1);
    int[] most = {12, 3, 10, 8, 16, 10, 30, 35, 800, 4};
    for (int what = 0; what < 10; what++) full.due("count(" + what + ")", most[what]);
    full.due("row(0, 3, 1)", 0).due("count(9)", 4);
    Bench none = new Bench();
    for (int what = 0; what < 10; what++) none.due("count(" + what + ")", 0);
    Bench.says(69, "NONE for others.");
    x.beyond("count(%)", -1, 10).unmoved();
    none.beyond("count(%)", -1, 10).unmoved();
  }

  // ---- promises 70 and 71

  private static void image() {
    Bench.says(70, "IMAGE k (0 .. 2) keeps the CLOTH, and acts: 0.");
    Bench x = Bench.of(ONE);
    x.due("image(0)", 0).due("sews(0, 1, 0)", 1).due("image(1)", 0).due("quarrels(0, 90, 1)", 0).due("image(2)", 0);
    x.due("anew()", 2).due("rate(0, 60)", 10);
    // as it was then, whatever came behind
    x.due("back(2)", 0).due("count(6)", 2).due("hung(2)", 0).due("strength(0, 1)", 9).due("thread(0, 2)", 10);
    x.due("back(1)", 0).due("count(6)", 1).due("hung(2)", 1);
    x.due("back(0)", 0).due("count(6)", 0).due("hung(2)", 0).due("strength(0, 1)", 0);
    // each of its acts, though others stood in their places since
    Bench acts = Bench.of("cloth years 2 law 0 odds 0;claim;claim;thread 0 to hem holds 9;thread 1 to hem holds 9;");
    acts.due("sews(0, 3, 0)", 3).due("quarrels(1, 5, 1)", 3).due("sews(1, 4, 1)", 3).due("image(0)", 0).due("anew()", 3);
    acts.due("quarrels(1, 9, 1)", 3).due("sews(0, 7, 0)", 3).due("sews(0, 8, 0)", 3).due("image(1)", 0).due("anew()", 3);
    acts.due("sews(1, 11, 0)", 3).due("sews(1, 12, 0)", 3).due("sews(1, 13, 0)", 3).due("back(0)", 0);
    int[][] rows = {{12, 9, 12, 12}, {24, 9, 24, 8}};
    for (int k = 0; k < 2; k++) {
      acts.due("back(" + k + ")", 0).due("count(6)", 3);
      acts.due("strength(0, 1)", rows[k][0]).due("strength(1, 1)", rows[k][1]);
      acts.due("strength(0, 2)", rows[k][2]).due("strength(1, 2)", rows[k][3]);
    }
    // another one in its place
    x.due("rate(0, 33)", 10).due("image(0)", 0).due("rate(0, 44)", 33).due("back(0)", 0).due("thread(0, 2)", 33);
    x.due("back(1)", 0).due("thread(0, 2)", 10);
    Bench.says(70, "-2: no such k.");
    x.beyond("image(%)", -2, 3).unmoved();
    new Bench().beyond("image(%)", -2, 3).unmoved();
  }

  private static void back() {
    Bench.says(71, "It is as IMAGE k has it: 0.");
    Bench x = Bench.of(ONE);
    x.ask("sews(0, 1, 0)");
    x.ask("image(0)");
    x.tell("cloth years 5 law 3 odds 9;claim;claim;thread 1 to 0 holds 4;quarrel 1 by 4 at 0;").due("cloth()", 5);
    x.due("back(0)", 0);
    int[] counts = {2, 1, 5, 1, 1, 1, 1, 4};
    for (int what = 0; what < 8; what++) x.due("count(" + what + ")", counts[what]);
    x.due("strength(0, 1)", 9).due("hung(2)", 1).due("thread(0, 1)", -1).due("quarrel(0, 1)", 11).due("blame()", -1);
    // what is done since does not come to the image
    x.due("sews(0, 1, 1)", 1).due("undo()", 1).due("undo()", 0).due("back(0)", 0).due("count(6)", 1).due("word(0, 0)", 0);
    x.due("undo()", 0).due("rate(0, 60)", 10).due("back(0)", 0).due("thread(0, 2)", 10).due("count(6)", 1);
    // to no cloth, too
    Bench none = new Bench();
    none.due("image(1)", 0).tell(ONE).due("cloth()", 4).due("sews(0, 1, 0)", 1).due("back(1)", 0).due("count(7)", 0);
    none.due("hung(0)", -2).due("count(6)", 0).due("undo()", -2).due("threads(0)", -2);
    // tape, slots and faults stay as they are
    Bench y = Bench.of(ONE);
    y.ask("image(2)");
    y.tell("x").due("cloth()", -4).tell(" claims").see(0, 0, 0, 0, 10).due("back(2)", 0);
    y.due("fault(0)", 1).due("fault(1)", 0).due("count(8)", 7).due("count(9)", 1).due("least(0, 0)", 10);
    y.due("cloth()", -4).due("fault(1)", 1);
    Bench.says(71, "-2: no such k; -6: it has nothing.");
    Bench z = Bench.of(ONE);
    z.ask("sews(0, 1, 0)");
    for (int k = 0; k < 3; k++) z.refused("back(" + k + ")", -6);
    z.beyond("back(%)", -2, 3).due("image(1)", 0).refused("back(0)", -6).refused("back(2)", -6).unmoved();
    new Bench().refused("back(0)", -6).beyond("back(%)", -2, 3).unmoved();
  }

  // ---- promises 72 to 74

  /** Number i of a slot, seen by slot 3: 1 .. 60, -1 for 0 and 61 .. 99, -2 for others. */
  private static void number(Bench x, int slot, int width, int i, long due) {
    x.due("row(3, " + width + ", 3)", 0).due("paste(" + slot + ", " + i + ", 3, 2, 1)", 0).due("least(3, 0)", due);
  }

  private static void numbers(Bench x, int slot, int... due) {
    for (int i = 0; i < due.length; i++) number(x, slot, 1, i, due[i]);
  }

  private static void rowTaken() {
    Bench.says(72, "A SLOT (0 .. 3) has a row of n numbers of a WIDTH, all 0 (in place of another one): 0.");
    for (int width = 0; width < 4; width++) {
      Bench x = Bench.of(STILL);
      for (int slot = 0; slot < 4; slot++) {
        x.due("row(" + slot + ", " + width + ", 60)", 0).due("write(" + slot + ", 59, 1)", 0);
        x.due("write(" + slot + ", 60, 1)", -7).due("row(" + slot + ", " + width + ", 0)", 0);
        x.due("write(" + slot + ", 0, 1)", -7).due("fits(" + slot + ", 0)", 60);
        x.due("row(" + slot + ", " + width + ", 1)", 0).due("write(" + slot + ", 0, 1)", 0);
        x.due("write(" + slot + ", 1, 1)", -7);
      }
    }
    // all 0, whatever was there
    Bench y = Bench.of(STILL);
    y.see(0, 1, 5, 5, 5, 5, 5, 5).due("row(0, 1, 6)", 0);
    numbers(y, 0, -1, -1, -1, -1, -1, -1);
    y.due("row(0, 0, 60)", 0).due("fits(0, 0)", 0).due("write(0, 59, 12)", 0).due("fits(0, 0)", 0);
    // thread 0 in year 0 was 0 nineteen times: none fits; less and again more has none of what was there
    y.due("row(0, 0, 3)", 0).due("row(0, 0, 60)", 0).due("paste(0, 57, 0, 0, 3)", 0).due("row(1, 0, 3)", 0);
    y.due("paste(0, 57, 1, 0, 3)", 0).due("least(1, 0)", -1).due("write(1, 2, 12)", 0).due("least(1, 0)", 12);
    y.due("count(9)", 3);
  }

  private static void rowRefused() {
    Bench.says(72, "-2: there is no such SLOT or WIDTH (0 .. 3), or n is above 60");
    Bench x = Bench.of(STILL);
    x.see(0, 0, 0, 0, 12);
    x.beyond("row(%, 0, 3)", -2, 4).beyond("row(0, %, 3)", -2, 4).refused("row(0, 0, 61)", -2).refused("row(0, 0, MAX)", -2);
    x.refused("row(1, 3, 61)", -2).due("least(0, 0)", 12).due("count(9)", 1).unmoved();
    Bench.says(72, "-3, and the SLOT stays: n is below 0");
    Bench y = Bench.of(STILL);
    y.see(0, 0, 0, 0, 12);
    y.refused("row(0, 0, -1)", -3).refused("row(0, 3, -1)", -3).refused("row(0, 0, MIN)", -3).refused("row(1, 0, -1)", -3);
    y.due("least(0, 0)", 12).due("count(9)", 1).due("write(1, 0, 0)", -6);
    // -2 is told first, and asked first
    y.refused("row(4, 0, -1)", -2).refused("row(-1, 0, -1)", -2).refused("row(0, 4, -1)", -2).refused("row(0, -1, MIN)", -2);
    y.unmoved();
  }

  private static void writeTaken() {
    Bench.says(73, "Number i of the SLOT's row is v, cut to its WIDTH: 0.");
    for (int width = 0; width < 4; width++) {
      Bench x = Bench.of(STILL);
      x.ask("row(0, " + width + ", 3)");
      for (int bits = 7; bits < 64; bits++) {
        boolean cut = bits >= 8 << width;
        x.due("write(0, 2, " + (1L << bits | 33) + ")", 0).due("least(0, 0)", cut ? 33 : -2);
      }
      long all = width == 3 ? 0 : -1L << (8 << width);
      x.due("write(0, 2, " + (all | 33) + ")", 0).due("least(0, 0)", 33);
      x.due("write(0, 2, -1)", 0).due("least(0, 0)", -2).due("write(0, 2, 99)", 0).due("least(0, 0)", -1);
      x.due("write(0, 2, " + Long.MIN_VALUE + ")", 0).due("least(0, 0)", width == 3 ? -2 : -1);
      x.due("write(0, 2, " + Long.MAX_VALUE + ")", 0).due("least(0, 0)", -2).due("write(0, 2, 0)", 0);
      x.due("least(0, 0)", -1);
    }
    Bench y = Bench.of(STILL);
    y.see(0, 1, 1, 2, 3, 4, 5, 6).due("write(0, 0, 11)", 0).due("write(0, 5, 16)", 0).due("write(0, 3, 14)", 0);
    numbers(y, 0, 11, 2, 3, 14, 5, 16);
  }

  private static void writeRefused() {
    Bench.says(73, "-2: there is no such SLOT; -6: it has nothing; -7: there is no such number.");
    Bench x = Bench.of(STILL);
    x.see(0, 0, 0, 0, 12);
    x.beyond("write(%, 0, 1)", -2, 4).refused("write(1, 0, 1)", -6).refused("write(3, 0, 1)", -6);
    x.beyond("write(0, %, 1)", -7, 3);
    // one behind the other
    x.refused("write(4, -1, 1)", -2).refused("write(1, -1, 1)", -6).refused("write(1, 60, 1)", -6);
    x.due("least(0, 0)", 12).due("count(9)", 1).due("row(2, 3, 0)", 0).refused("write(2, 0, 1)", -7).unmoved();
    Bench full = Bench.of(STILL);
    full.ask("row(0, 3, 60)");
    full.due("write(0, 59, 1)", 0).refused("write(0, 60, 1)", -7).refused("write(0, 61, 1)", -7);
  }

  private static void pasteTaken() {
    Bench.says(74, "So many numbers of a SLOT's row, from one on, are put to another one's (or its own), from one on, as "
        + "they were: 0.");
    Bench x = Bench.of(STILL);
    x.see(0, 1, 1, 2, 3, 4, 5, 6).see(1, 1, 11, 12, 13, 14);
    x.due("paste(0, 0, 1, 0, 4)", 0);
    numbers(x, 1, 1, 2, 3, 4);
    x.due("paste(0, 4, 1, 1, 2)", 0);
    numbers(x, 1, 1, 5, 6, 4);
    x.due("paste(0, 5, 1, 3, 1)", 0);
    numbers(x, 1, 1, 5, 6, 6);
    numbers(x, 0, 1, 2, 3, 4, 5, 6);
    // its own: up and down over itself, and in its place
    x.due("paste(0, 0, 0, 2, 4)", 0);
    numbers(x, 0, 1, 2, 1, 2, 3, 4);
    x.see(0, 1, 1, 2, 3, 4, 5, 6).due("paste(0, 2, 0, 0, 4)", 0);
    numbers(x, 0, 3, 4, 5, 6, 5, 6);
    x.due("paste(0, 0, 0, 0, 6)", 0);
    numbers(x, 0, 3, 4, 5, 6, 5, 6);
    // none, at the last place there is
    x.due("paste(0, 6, 1, 4, 0)", 0).due("paste(0, 0, 1, 0, 0)", 0).due("row(2, 1, 0)", 0).due("paste(2, 0, 2, 0, 0)", 0);
    x.due("paste(2, 0, 1, 2, 0)", 0).due("paste(0, 3, 2, 0, 0)", 0);
    numbers(x, 1, 1, 5, 6, 6);
    for (int width = 0; width < 4; width++) {
      Bench full = Bench.of(STILL);
      full.due("row(0, " + width + ", 60)", 0).due("row(1, " + width + ", 60)", 0).due("write(0, 2, 33)", 0);
      full.due("write(0, 59, 44)", 0).due("paste(0, 0, 1, 0, 60)", 0);
      number(full, 1, width, 2, 33);
      number(full, 1, width, 59, 44);
    }
  }

  private static void pasteRefused() {
    Bench.says(74, "-2: there is no such SLOT; -6: one has nothing; -8: they are not of one WIDTH");
    Bench x = Bench.of(STILL);
    x.see(0, 0, 0, 0, 12).see(1, 1, 0, 0, 33);
    x.beyond("paste(%, 0, 0, 0, 1)", -2, 4).beyond("paste(0, 0, %, 0, 1)", -2, 4);
    x.refused("paste(2, 0, 0, 0, 1)", -6).refused("paste(0, 0, 2, 0, 1)", -6).refused("paste(2, 0, 2, 0, 0)", -6);
    x.refused("paste(0, 0, 1, 0, 3)", -8).refused("paste(1, 0, 0, 0, 3)", -8).refused("paste(0, 0, 1, 0, 0)", -8);
    // one behind the other
    x.refused("paste(4, 0, 2, 0, 1)", -2).refused("paste(2, 0, 4, 0, 1)", -2).refused("paste(4, -1, 0, 0, 1)", -2);
    x.refused("paste(0, 0, 4, 0, -1)", -2).refused("paste(2, -1, 0, 0, 1)", -6).refused("paste(0, 0, 2, 60, 1)", -6);
    x.refused("paste(0, -1, 1, 0, 1)", -8).refused("paste(0, 0, 1, 3, 1)", -8).refused("paste(0, 0, 1, 0, -1)", -8);
    x.due("least(0, 0)", 12).due("least(1, 0)", 33).unmoved();
    Bench.says(74, "-7, and nothing happens: some are beyond their rows, or a place or n is below 0");
    Bench y = Bench.of(STILL);
    y.see(0, 0, 0, 0, 12, 0, 0, 12).see(1, 0, 0, 0, 33);
    // from its last place on, and one beyond
    y.refused("paste(0, 0, 1, 0, 4)", -7).refused("paste(0, 3, 1, 0, 4)", -7).refused("paste(0, 4, 1, 0, 3)", -7);
    y.refused("paste(0, 5, 1, 0, 2)", -7).refused("paste(0, 6, 1, 0, 1)", -7).refused("paste(0, 0, 1, 1, 3)", -7);
    y.refused("paste(0, 0, 1, 2, 2)", -7).refused("paste(0, 0, 1, 3, 1)", -7).refused("paste(1, 0, 0, 5, 2)", -7);
    y.refused("paste(1, 0, 0, 3, 4)", -7).refused("paste(0, 1, 0, 0, 6)", -7).refused("paste(0, 0, 0, 1, 6)", -7);
    for (String bad : new String[] {"-1", "MIN"}) {
      y.refused("paste(0, " + bad + ", 1, 0, 1)", -7).refused("paste(0, 0, 1, " + bad + ", 1)", -7);
      y.refused("paste(0, 0, 1, 0, " + bad + ")", -7).refused("paste(0, " + bad + ", 1, 0, 0)", -7);
      y.refused("paste(0, 0, 1, " + bad + ", 0)", -7).refused("paste(0, 2, 1, 2, " + bad + ")", -7);
    }
    y.refused("paste(0, MAX, 1, 0, 1)", -7).refused("paste(0, 0, 1, MAX, 1)", -7).refused("paste(0, 0, 1, 0, MAX)", -7);
    y.refused("paste(0, 1, 1, 1, MAX)", -7).refused("paste(0, MAX, 1, MAX, MAX)", -7).refused("paste(0, 7, 1, 0, 0)", -7);
    y.refused("paste(0, 0, 1, 4, 0)", -7);
    y.due("least(0, 0)", 12).due("least(1, 0)", 33).due("fits(0, 0)", 1).unmoved();
  }
}
