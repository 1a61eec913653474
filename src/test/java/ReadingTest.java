/** Promises 1 to 8: the tape, the cloth and its faults, what was told. */
public final class ReadingTest {
  private static final String HEAD = "cloth years 2 law 3 odds 10;";

  public static void main(String[] args) {
    newObject();
    tape();
    cloths();
    faults();
    told();
    Due.finish("ReadingTest");
  }

  private static void newObject() {
    ArgumentMender x = new ArgumentMender();
    Due.due(1, "NONE", ArgumentMender.NONE, -1);
    for (int what = 0; what < 10; what++) Due.due(1, "count(" + what + ")", x.count(what), 0);
    Due.due(1, "hung(0)", x.hung(0), -2);
    Due.due(1, "frail()", x.frail(), -2);
    Due.due(1, "anew()", x.anew(), -2);
    Due.due(1, "undo()", x.undo(), -2);
    Due.due(1, "thread(0, 0)", x.thread(0, 0), -2);
    Due.due(1, "by(0)", x.by(0), -2);
    Due.due(1, "worth(0)", x.worth(0), -2);
    Due.due(1, "drawn(0, 0)", x.drawn(0, 0), -2);
    Due.due(1, "back(0)", x.back(0), -6);
    Due.due(1, "laws(0)", x.laws(0), -2);
  }

  private static void tape() {
    ArgumentMender x = new ArgumentMender();
    for (int i = 1; i <= 40; i++) Due.due(2, "feed " + i, x.feed(0x63636363, 1, -1, 0, 5), 20 * i);
    Due.due(2, "feed 41", x.feed(0, 0, 0, 0, 0), -1);
    Due.due(2, "count(8)", x.count(8), 800);
    Due.due(3, "end(801)", x.end(801), -1);
    Due.due(3, "end(-1)", x.end(-1), -1);
    Due.due(3, "count(8)", x.count(8), 800);
    Due.due(3, "end(800)", x.end(800), 800);
    Due.due(3, "end(781)", x.end(781), 781);
    Due.due(2, "feed above 800", x.feed(0, 0, 0, 0, 0), -1);
    Due.due(3, "end(780)", x.end(780), 780);
    Due.due(2, "feed to 800", x.feed(0, 0, 0, 0, 0), 800);
    Due.due(3, "end(0)", x.end(0), 0);
    Due.due(3, "end(1)", x.end(1), -1);
    Due.due(3, "count(8)", x.count(8), 0);
    // the highest byte first: "clot", "h ye", "ars ", "1 la", "w 0 "
    x.feed(0x636c6f74, 0x68207965, 0x61727320, 0x31206c61, 0x77203020);
    x.feed(0x6f646473, 0x20303b20, 0x20202020, 0x20202020, 0x20202020);
    Due.due(2, "cloth() by its bytes", x.cloth(), 1);
  }

  private static void cloths() {
    ArgumentMender x = new ArgumentMender();
    Due.feed(x, HEAD + "claim;thread 0 to hem holds 9;quarrel 0 by 10 at 0;");
    Due.due(4, "cloth()", x.cloth(), 4);
    Due.due(4, "tape is empty", x.count(8), 0);
    Due.due(4, "fault(0)", x.fault(0), 0);
    Due.due(4, "hung(2)", x.hung(2), 0);
    x.sews(0, 5, 0);
    Due.feed(x, "cloth years 2 law 3 odds 10;claim;cloth");
    Due.due(4, "cloth() with a fault", x.cloth(), -4);
    Due.due(4, "tape is empty", x.count(8), 0);
    Due.due(4, "lines stay", x.count(7), 4);
    Due.due(4, "acts stay", x.count(6), 1);
    Due.due(4, "strength stays", x.strength(0, 1), 12);
    Due.feed(x, "cloth\n years 12 law 0odds0;\n\n claim ;claim; thread1to0holds 007 ;");
    Due.due(4, "cloth() in place of another", x.cloth(), 4);
    Due.due(4, "nothing done", x.count(6), 0);
    Due.due(4, "years", x.count(0), 12);
    Due.due(4, "holds 007", x.thread(0, 2), 7);
    Due.feed(x, "  \n ");
    Due.due(4, "cloth() of blanks", x.cloth(), 0);
    Due.due(4, "no cloth then", x.hung(0), -2);
    Due.due(4, "no lines then", x.count(7), 0);
    Due.due(4, "no fault", x.fault(1), -1);
    Due.due(4, "cloth() of nothing", x.cloth(), 0);
    Due.feed(x, HEAD + "claim;".repeat(8) + "thread 0 to hem holds 60;".repeat(16) + "quarrel 0 by 90 at 11;".repeat(10));
    Due.due(4, "cloth() of all there may be", x.cloth(), 35);
  }

  private static void faults() {
    fault("cloth", 1, 5);
    fault("cloth   ", 1, 8);
    fault("cloth years 0 law 0 odds 0;", 2, 12);
    fault("cloth years 13 law 0 odds 0;", 2, 12);
    fault("cloth years 99999999999999999999 law 0 odds 0;", 2, 12);
    fault("cloth years 4294967297 law 0 odds 0;", 2, 12);
    fault("cloth years x", 1, 12);
    fault("cloth years ;", 1, 12);
    fault("cloth year 1", 1, 6);
    fault("cloth years 1 law 4", 2, 18);
    fault("cloth years 1 law 1 odds 11;", 2, 25);
    fault("cloth years 1 law 1 odds 1", 1, 26);
    fault("cloth years 1 law 1 odds 1 1;", 1, 27);
    fault("clothx years 1 law 1 odds 1;", 1, 0);
    fault(" \nclaim;", 1, 2);
    fault(";", 1, 0);
    fault("7", 1, 0);
    fault("Cloth", 1, 0);
    fault(HEAD + ";", 1, 28);
    fault(HEAD + "cloth years 1 law 1 odds 1;", 1, 28);
    fault(HEAD + "mend;", 1, 28);
    fault(HEAD + "claim", 1, 33);
    fault(HEAD + "claim;\t", 1, 34);
    fault(HEAD + "claim;\u00e9", 1, 34);
    fault(HEAD + "claim:", 1, 33);
    fault(HEAD + "claim;thread 1 to hem holds 1;", 2, 41);
    fault(HEAD + "claim;thread hem to hem holds 1;", 1, 41);
    fault(HEAD + "claim;thread 0 to 0 holds 1;", 2, 46);
    fault(HEAD + "claim;claim;thread 1 to 1 holds 1;", 2, 52);
    fault(HEAD + "claim;claim;thread 0 to 1 holds 1;", 2, 52);
    fault(HEAD + "claim;thread 0 to hem holds 0;", 2, 56);
    fault(HEAD + "claim;thread 0 to hem holds 61;", 2, 56);
    fault(HEAD + "claim;thread 0 to hum holds 61;", 1, 46);
    fault(HEAD + "claim;thread 0 to hem hold 61;", 1, 50);
    fault(HEAD + "quarrel 0 by 1 at 1;", 2, 36);
    fault(HEAD + "claim;quarrel 0 by 0 at 1;", 2, 47);
    fault(HEAD + "claim;quarrel 0 by 91 at 1;", 2, 47);
    fault(HEAD + "claim;quarrel 0 by 90 at 12;", 2, 53);
    fault(HEAD + "claim;quarrel 0 at 90 by 12;", 1, 44);
    fault(HEAD + "claim;".repeat(9), 3, 76);
    fault(HEAD + "claim;" + "thread 0 to hem holds 5;".repeat(17), 3, 418);
    fault(HEAD + "claim;" + "quarrel 0 by 9 at 9;".repeat(11), 3, 234);
    fault(HEAD + "claim;".repeat(8) + "claim", 3, 76);
    ArgumentMender x = new ArgumentMender();
    Due.due(5, "fault(0) ahead of any", x.fault(0), 0);
    Due.due(5, "fault(1) ahead of any", x.fault(1), -1);
    Due.due(5, "fault(2)", x.fault(2), -1);
    Due.due(5, "fault(-1)", x.fault(-1), -1);
    Due.feed(x, "x");
    x.cloth();
    Due.due(5, "fault(2)", x.fault(2), -1);
    x.cloth();
    Due.due(5, "fault(0) of the latest", x.fault(0), 0);
    Due.due(5, "fault(1) of the latest", x.fault(1), -1);
  }

  private static void fault(String text, int what, int where) {
    ArgumentMender x = new ArgumentMender();
    Due.feed(x, text);
    Due.due(4, "cloth() of " + text, x.cloth(), -4);
    Due.due(5, "fault(0) of " + text, x.fault(0), what);
    Due.due(5, "fault(1) of " + text, x.fault(1), where);
  }

  private static void told() {
    ArgumentMender x = Due.cloth("cloth years 3 law 1 odds 4;claim;thread 0 to hem holds 60;claim;"
        + "thread 1 to 0 holds 1;quarrel 0 by 90 at 11;thread 1 to hem holds 7;quarrel 1 by 1 at 0;claim;");
    Due.due(6, "thread(0, 0)", x.thread(0, 0), 0);
    Due.due(6, "thread(0, 1)", x.thread(0, 1), -1);
    Due.due(6, "thread(0, 2)", x.thread(0, 2), 60);
    Due.due(6, "thread(1, 0)", x.thread(1, 0), 1);
    Due.due(6, "thread(1, 1)", x.thread(1, 1), 0);
    Due.due(6, "thread(2, 2)", x.thread(2, 2), 7);
    Due.due(6, "thread(3, 0)", x.thread(3, 0), -2);
    Due.due(6, "thread(-1, 0)", x.thread(-1, 0), -2);
    Due.due(6, "thread(0, 3)", x.thread(0, 3), -2);
    Due.due(6, "thread(0, -1)", x.thread(0, -1), -2);
    Due.due(7, "quarrel(0, 0)", x.quarrel(0, 0), 0);
    Due.due(7, "quarrel(0, 1)", x.quarrel(0, 1), 90);
    Due.due(7, "quarrel(0, 2)", x.quarrel(0, 2), 11);
    Due.due(7, "quarrel(1, 0)", x.quarrel(1, 0), 1);
    Due.due(7, "quarrel(2, 0)", x.quarrel(2, 0), -2);
    Due.due(7, "quarrel(-1, 0)", x.quarrel(-1, 0), -2);
    Due.due(7, "quarrel(0, 3)", x.quarrel(0, 3), -2);
    Due.due(7, "quarrel(0, -1)", x.quarrel(0, -1), -2);
    Due.due(8, "threads(0)", x.threads(0), 1);
    Due.due(8, "threads(1)", x.threads(1), 6);
    Due.due(8, "threads(2)", x.threads(2), 0);
    Due.due(8, "threads(3)", x.threads(3), -2);
    Due.due(8, "threads(-1)", x.threads(-1), -2);
  }
}
