/** Promises 48 to 55: what was seen, and laws. */
public final class SeenTest {
  /** Worn by 2, then by 1: 12, 10, 9. */
  private static final String WORN = "cloth years 2 law 0 odds 0;claim;thread 0 to hem holds 12;quarrel 0 by 10 at 0;"
      + "quarrel 0 by 9 at 1;";

  public static void main(String[] args) {
    fits();
    laws();
    wrongs();
    Due.finish("SeenTest");
  }

  private static void see(ArgumentMender x, int slot, int width, int... row) {
    x.row(slot, width, row.length);
    for (int i = 0; i < row.length; i++) x.write(slot, i, row[i]);
  }

  private static void all(ArgumentMender x, int thread, int... due) {
    Due.due(48, "fits", x.fits(0, thread), due[0]);
    Due.due(49, "least", x.least(0, thread), due[1]);
    Due.due(50, "greatest", x.greatest(0, thread), due[2]);
    Due.due(51, "ask", x.ask(0, thread), due[3]);
    Due.due(52, "leaves", x.leaves(0, thread), due[4]);
  }

  private static void fits() {
    ArgumentMender x = Due.cloth(WORN);
    for (int width = 0; width < 4; width++) {
      see(x, 0, width);
      all(x, 0, 60, 1, 60, 0, 1);
      see(x, 0, width, 0, 2, 9);
      all(x, 0, 1, 12, 12, -1, 1);
      // below 10 it tears in year 0; 10 is 8 in year 1, and tears then
      see(x, 0, width, 0, 2, 0);
      all(x, 0, 10, 1, 10, 0, 1);
      see(x, 0, width, 0, 2, 0, 0, 1, 8);
      all(x, 0, 1, 10, 10, -1, 1);
      see(x, 0, width, 0, 2, 8, 0, 0, 12);
      all(x, 0, 0, -1, -1, -1, 0);
      see(x, 0, width, 0, 2, 99);
      all(x, 0, 0, -1, -1, -1, 0);
    }
    Due.due(9, "told as ever", x.strength(0, 0), 12);
    // acts count: two more in year 1
    see(x, 0, 0, 0, 2, 11);
    x.sews(0, 2, 1);
    all(x, 0, 1, 12, 12, -1, 1);
    // seen of another thread
    ArgumentMender y = Due.cloth("cloth years 1 law 1 odds 0;claim;thread 0 to hem holds 20;thread 0 to hem holds 10;"
        + "quarrel 0 by 5 at 0;");
    see(y, 0, 1, 1, 1, 9);
    all(y, 0, 9, 1, 9, 0, 1);
    see(y, 0, 1, 1, 1, 10);
    all(y, 0, 51, 10, 60, 0, 1);
  }

  private static void laws() {
    ArgumentMender x = Due.cloth("cloth years 1 law 0 odds 0;claim;thread 0 to hem holds 10;thread 0 to hem holds 30;"
        + "quarrel 0 by 20 at 0;");
    // by laws 0 to 3 the shares are 10 and 10, 0 and 20, 5 and 15, 10 and 10
    see(x, 1, 2, 0, 1, 8);
    Due.due(53, "laws(1)", x.laws(1), 9);
    see(x, 1, 2, 0, 1, 10);
    Due.due(53, "laws(1)", x.laws(1), 2);
    see(x, 1, 2, 0, 1, 9, 1, 1, 27);
    Due.due(53, "laws(1)", x.laws(1), 4);
    see(x, 1, 2, 0, 1, 7);
    Due.due(53, "laws(1), none", x.laws(1), 0);
    see(x, 1, 2);
    Due.due(53, "laws(1) of an empty row", x.laws(1), 15);
    ArgumentMender y = Due.cloth("cloth years 1 law 0 odds 0;claim;claim;thread 1 to 0 holds 12;thread 1 to hem holds 50;"
        + "thread 0 to hem holds 5;quarrel 1 by 12 at 0;");
    // the thread of claim 0 has 6, 0, 2, 6
    Due.due(54, "by(0)", y.by(0), 2);
    Due.due(54, "by(1)", y.by(1), 3);
    Due.due(54, "by(2)", y.by(2), 3);
    Due.due(54, "by(3)", y.by(3), 2);
    Due.due(54, "by(4)", y.by(4), -2);
    Due.due(54, "by(-1)", y.by(-1), -2);
    Due.due(55, "law(), the least of several", y.law(), 1);
    Due.due(1, "the law told stays", y.count(1), 0);
    Due.due(14, "hung(1)", y.hung(1), 2);
    Due.due(55, "law() without claims", Due.cloth("cloth years 1 law 2 odds 0;").law(), 0);
    Due.due(55, "law() without a cloth", new ArgumentMender().law(), -2);
    Due.due(54, "by(0) without a cloth", new ArgumentMender().by(0), -2);
  }

  private static void wrongs() {
    ArgumentMender x = Due.cloth(WORN);
    all(x, 0, -6, -6, -6, -6, -6);
    all(x, 1, -2, -2, -2, -2, -2);
    all(x, -1, -2, -2, -2, -2, -2);
    Due.due(53, "laws(0), nothing", x.laws(0), -6);
    for (int slot : new int[] {-1, 4}) {
      Due.due(48, "fits, no slot", x.fits(slot, 0), -2);
      Due.due(49, "least, no slot", x.least(slot, 0), -2);
      Due.due(50, "greatest, no slot", x.greatest(slot, 0), -2);
      Due.due(51, "ask, no slot", x.ask(slot, 0), -2);
      Due.due(52, "leaves, no slot", x.leaves(slot, 0), -2);
      Due.due(53, "laws, no slot", x.laws(slot), -2);
    }
    int[][] rows = {{0, 2}, {0, 2, 9, 0}, {1, 2, 9}, {-1, 2, 9}, {0, 3, 9}, {0, -1, 9}, {0, 2, 100}, {0, 2, -1},
        {0, 2, 9, 0, 2, 100}};
    for (int[] row : rows) {
      see(x, 0, 2, row);
      all(x, 0, -2, -2, -2, -2, -2);
      Due.due(53, "laws", x.laws(0), -2);
    }
    // numbers of eight bytes are not cut ahead of the look
    x.row(0, 3, 3);
    x.write(0, 2, 9);
    x.write(0, 1, 1L << 32 | 2);
    all(x, 0, -2, -2, -2, -2, -2);
    x.row(0, 2, 3);
    x.write(0, 2, 9);
    x.write(0, 1, 1L << 32 | 2);
    all(x, 0, 1, 12, 12, -1, 1);
    ArgumentMender none = new ArgumentMender();
    Due.due(48, "fits without a cloth", none.fits(0, 0), -2);
    Due.due(53, "laws without a cloth", none.laws(0), -2);
  }
}
