/** Promises 62 to 65 and 68 to 74: acts, counts, images, slots. */
public final class ActsTest {
  private static final String ONE = "cloth years 2 law 1 odds 5;claim;thread 0 to hem holds 10;quarrel 0 by 11 at 0;";

  public static void main(String[] args) {
    acts();
    limits();
    rates();
    counts();
    images();
    rows();
    pastes();
    Due.finish("ActsTest");
  }

  private static void acts() {
    ArgumentMender x = Due.cloth(ONE);
    Due.due(62, "sews(0, 1, 0)", x.sews(0, 1, 0), 1);
    Due.due(63, "quarrels(0, 90, 1)", x.quarrels(0, 90, 1), 0);
    Due.due(62, "sews(0, 60, 1)", x.sews(0, 60, 1), 0);
    Due.due(64, "undo()", x.undo(), 2);
    Due.due(64, "undo()", x.undo(), 1);
    Due.due(64, "hung(2)", x.hung(2), 1);
    Due.due(63, "quarrels(0, 1, 1)", x.quarrels(0, 1, 1), 1);
    Due.due(65, "anew()", x.anew(), 2);
    Due.due(65, "anew()", x.anew(), 0);
    Due.due(65, "hung(2)", x.hung(2), 0);
    Due.due(64, "undo(), none", x.undo(), -5);
    // a word let in behind tears keeps the claim from falling in the end
    Due.due(62, "sews(0, 1, 1)", x.sews(0, 1, 1), 1);
  }

  private static void limits() {
    ArgumentMender x = Due.cloth(ONE);
    for (int bad : new int[] {-1, 1, Integer.MAX_VALUE, Integer.MIN_VALUE}) {
      Due.due(62, "sews(" + bad + ", 1, 0)", x.sews(bad, 1, 0), -2);
      Due.due(63, "quarrels(" + bad + ", 1, 0)", x.quarrels(bad, 1, 0), -2);
    }
    for (int bad : new int[] {-1, 2, 3, Integer.MAX_VALUE}) {
      Due.due(62, "sews(0, 1, " + bad + ")", x.sews(0, 1, bad), -2);
      Due.due(63, "quarrels(0, 1, " + bad + ")", x.quarrels(0, 1, bad), -2);
    }
    Due.due(62, "sews(0, 0, 0)", x.sews(0, 0, 0), -2);
    Due.due(62, "sews(0, 61, 0)", x.sews(0, 61, 0), -2);
    Due.due(63, "quarrels(0, 0, 0)", x.quarrels(0, 0, 0), -2);
    Due.due(63, "quarrels(0, 91, 0)", x.quarrels(0, 91, 0), -2);
    Due.due(6, "no act was done", x.count(6), 0);
    for (int i = 0; i < 30; i++) Due.due(62, "act " + i, x.sews(0, 60, 0), 1);
    Due.due(62, "sews, the 31st", x.sews(0, 60, 0), -5);
    Due.due(63, "quarrels, the 31st", x.quarrels(0, 90, 0), -5);
    Due.due(62, "-2 ahead of -5", x.sews(1, 60, 0), -2);
    Due.due(63, "-2 ahead of -5", x.quarrels(0, 90, 2), -2);
    Due.due(69, "count(6)", x.count(6), 30);
    Due.due(64, "undo()", x.undo(), 29);
    Due.due(63, "quarrels, the 30th", x.quarrels(0, 90, 0), 1);
    Due.due(63, "sure, for 99 less 2 bears 90", x.strength(0, 1), 79);
    ArgumentMender none = new ArgumentMender();
    Due.due(62, "sews without a cloth", none.sews(0, 1, 0), -2);
    Due.due(63, "quarrels without a cloth", none.quarrels(0, 1, 0), -2);
    Due.due(64, "undo without a cloth", none.undo(), -2);
    Due.due(65, "anew without a cloth", none.anew(), -2);
  }

  private static void rates() {
    ArgumentMender x = Due.cloth(ONE);
    Due.due(68, "rate(0, 60)", x.rate(0, 60), 10);
    Due.due(68, "thread(0, 2)", x.thread(0, 2), 60);
    Due.due(68, "strength(0, 1)", x.strength(0, 1), 58);
    Due.due(68, "hung(2)", x.hung(2), 1);
    Due.due(68, "rate(0, 1)", x.rate(0, 1), 60);
    Due.due(40, "word(0, 0), from now on", x.word(0, 0), 10);
    Due.due(68, "rate(0, 0)", x.rate(0, 0), -2);
    Due.due(68, "rate(0, 61)", x.rate(0, 61), -2);
    Due.due(68, "rate(1, 5)", x.rate(1, 5), -2);
    Due.due(68, "rate(-1, 5)", x.rate(-1, 5), -2);
    x.sews(0, 1, 0);
    Due.due(68, "rate(0, 5) with an act", x.rate(0, 5), -5);
    Due.due(68, "-2 ahead of -5", x.rate(0, 61), -2);
    x.undo();
    Due.due(68, "rate(0, 5), taken back", x.rate(0, 5), 1);
    Due.due(68, "rate without a cloth", new ArgumentMender().rate(0, 5), -2);
  }

  private static void counts() {
    ArgumentMender x = Due.cloth("cloth years 7 law 2 odds 9;claim;claim;thread 0 to hem holds 10;"
        + "quarrel 0 by 11 at 0;quarrel 0 by 11 at 0;quarrel 0 by 11 at 0;");
    x.sews(0, 1, 0);
    x.feed(0, 0, 0, 0, 0);
    x.end(13);
    x.row(3, 0, 0);
    x.row(1, 3, 60);
    int[] due = {7, 2, 9, 2, 1, 3, 1, 7, 13, 2};
    for (int what = 0; what < 10; what++) Due.due(69, "count(" + what + ")", x.count(what), due[what]);
    Due.due(69, "count(10)", x.count(10), -1);
    Due.due(69, "count(-1)", x.count(-1), -1);
  }

  private static void images() {
    ArgumentMender x = Due.cloth(ONE);
    Due.due(70, "image(-1)", x.image(-1), -2);
    Due.due(70, "image(3)", x.image(3), -2);
    Due.due(71, "back(-1)", x.back(-1), -2);
    Due.due(71, "back(3)", x.back(3), -2);
    Due.due(71, "back(2), nothing", x.back(2), -6);
    x.rate(0, 12);
    x.quarrels(0, 1, 1);
    Due.due(70, "image(2)", x.image(2), 0);
    x.anew();
    x.rate(0, 5);
    Due.due(70, "image(0)", x.image(0), 0);
    Due.due(71, "back(2)", x.back(2), 0);
    Due.due(71, "holds", x.thread(0, 2), 12);
    Due.due(71, "acts", x.count(6), 1);
    Due.due(71, "hung(2)", x.hung(2), 1);
    x.sews(0, 1, 1);
    Due.due(71, "back(2) once more", x.back(2), 0);
    Due.due(71, "the image has not changed", x.count(6), 1);
    Due.due(71, "back(0)", x.back(0), 0);
    Due.due(71, "holds", x.thread(0, 2), 5);
    Due.due(71, "hung(2)", x.hung(2), 0);
    Due.due(71, "word(0, 0)", x.word(0, 0), 6);
    Due.due(71, "back(2)", x.back(2), 0);
    Due.due(71, "word(0, 0)", x.word(0, 0), 0);
    x.cloth();
    Due.due(70, "image(1) of no cloth", x.image(1), 0);
    Due.due(71, "back(0)", x.back(0), 0);
    Due.due(71, "lines", x.count(7), 4);
    Due.due(71, "back(1)", x.back(1), 0);
    Due.due(71, "no cloth", x.hung(0), -2);
    // tape, slots and faults are none of an image
    x.row(0, 0, 3);
    x.feed(1, 2, 3, 4, 5);
    x.back(0);
    Due.due(71, "count(8)", x.count(8), 20);
    Due.due(71, "count(9)", x.count(9), 1);
    Due.due(71, "cloth()", x.cloth(), -4);
    x.back(2);
    Due.due(71, "fault(0)", x.fault(0), 1);
  }

  private static void rows() {
    ArgumentMender x = Due.cloth("cloth years 2 law 0 odds 0;claim;thread 0 to hem holds 12;");
    int[][] bad = {{-1, 0, 1}, {4, 0, 1}, {0, -1, 1}, {0, 4, 1}, {0, 0, 61}, {4, 0, -1}, {0, 4, -1}};
    for (int[] b : bad) Due.due(72, "row", x.row(b[0], b[1], b[2]), -2);
    Due.due(72, "row(0, 0, -1)", x.row(0, 0, -1), -3);
    Due.due(72, "count(9)", x.count(9), 0);
    Due.due(72, "row(0, 0, 60)", x.row(0, 0, 60), 0);
    Due.due(73, "write(0, 59, 1)", x.write(0, 59, 1), 0);
    Due.due(73, "write(0, 60, 1)", x.write(0, 60, 1), -7);
    Due.due(73, "write(0, -1, 1)", x.write(0, -1, 1), -7);
    Due.due(73, "write(-1, 0, 1)", x.write(-1, 0, 1), -2);
    Due.due(73, "write(4, 0, 1)", x.write(4, 0, 1), -2);
    Due.due(73, "write(1, 0, 1)", x.write(1, 0, 1), -6);
    Due.due(72, "row(0, 0, 3), all 0 anew", x.row(0, 0, 3), 0);
    Due.due(72, "fits: strength 0", x.fits(0, 0), 0);
    Due.due(73, "write(0, 2, 12)", x.write(0, 2, 12), 0);
    Due.due(72, "row(0, 1, -1), the slot stays", x.row(0, 1, -1), -3);
    Due.due(72, "fits", x.fits(0, 0), 1);
    Due.due(72, "row(0, 1, 0)", x.row(0, 1, 0), 0);
    Due.due(72, "a row of none is a row", x.fits(0, 0), 60);
    Due.due(73, "write to a row of none", x.write(0, 0, 0), -7);
    // cut to the width: 12 with higher bits
    for (int width = 0; width < 4; width++) {
      x.row(1, width, 3);
      for (int bits = 8; bits < 64; bits += 8) {
        x.write(1, 2, 1L << bits | 12);
        Due.due(73, "width " + width + ", bit " + bits, x.fits(1, 0), bits >= 8 << width ? 1 : -2);
      }
      x.write(1, 2, -244);
      Due.due(73, "width " + width + ", -244", x.fits(1, 0), width == 0 ? 1 : -2);
    }
  }

  private static void pastes() {
    ArgumentMender x = Due.cloth("cloth years 12 law 0 odds 0;claim;thread 0 to hem holds 12;");
    x.row(0, 1, 6);
    x.row(1, 1, 3);
    x.row(2, 2, 6);
    for (int i = 0; i < 6; i++) x.write(0, i, i == 3 ? 0 : i == 4 ? 7 : 12);
    // 12 12 12 0 7 12: the last three are seen of thread 0 in year 7
    Due.due(74, "paste(0, 3, 1, 0, 3)", x.paste(0, 3, 1, 0, 3), 0);
    Due.due(74, "fits(1, 0)", x.fits(1, 0), 1);
    Due.due(74, "least(1, 0)", x.least(1, 0), 12);
    // its own, over itself: 12 12 0 7 12 12, then 12 12 12 12 0 7
    Due.due(74, "paste down over itself", x.paste(0, 3, 0, 2, 3), 0);
    Due.due(74, "paste(0, 2, 1, 0, 3)", x.paste(0, 2, 1, 0, 3), 0);
    Due.due(74, "fits(1, 0)", x.fits(1, 0), 1);
    Due.due(74, "paste up over itself", x.paste(0, 0, 0, 2, 4), 0);
    x.row(1, 1, 3);
    x.write(1, 2, 12);
    Due.due(74, "0 7 of the end to the front", x.paste(0, 4, 1, 0, 2), 0);
    Due.due(74, "fits(1, 0)", x.fits(1, 0), 1);
    int[][] slots = {{-1, 0}, {4, 0}, {0, -1}, {0, 4}, {3, 4}};
    for (int[] s : slots) Due.due(74, "no such slot", x.paste(s[0], 0, s[1], 0, 1), -2);
    Due.due(74, "nothing", x.paste(3, 0, 0, 0, 1), -6);
    Due.due(74, "nothing", x.paste(0, 0, 3, 0, 1), -6);
    Due.due(74, "not of one width", x.paste(0, 0, 2, 0, 1), -8);
    Due.due(74, "not of one width, ahead of -7", x.paste(0, -1, 2, 0, 1), -8);
    int[][] beyond = {{-1, 0, 1}, {0, -1, 1}, {0, 0, -1}, {0, 0, 4}, {0, 1, 3}, {4, 0, 3}, {6, 0, 1}, {0, 3, 1},
        {Integer.MAX_VALUE, 0, 1}, {0, Integer.MAX_VALUE, 1}, {1, 1, Integer.MAX_VALUE}, {0, 0, Integer.MIN_VALUE}};
    for (int[] b : beyond) Due.due(74, "beyond", x.paste(0, b[0], 1, b[1], b[2]), -7);
    Due.due(74, "nothing happened", x.fits(1, 0), 1);
    Due.due(74, "none at the ends", x.paste(0, 6, 1, 3, 0), 0);
    Due.due(74, "nothing happened", x.fits(1, 0), 1);
  }
}
