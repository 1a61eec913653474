/** What the tests share: clothes fed as text, and answers compared. */
final class Due {
  private static int wrong = 0;
  private static int asked = 0;

  static void due(int promise, String call, long got, long want) {
    asked++;
    if (got != want) {
      wrong++;
      System.out.println("promise " + promise + ": " + call + " answered " + got + ", due is " + want);
    }
  }

  static void finish(String name) {
    System.out.println(name + ": " + asked + " answers, " + wrong + " not as due");
    if (wrong != 0) System.exit(1);
  }

  static void feed(ArgumentMender x, String text) {
    x.end(0);
    for (int i = 0; i < text.length(); i += 20) {
      int[] n = new int[5];
      for (int k = 0; k < 20; k++) {
        int b = i + k < text.length() ? text.charAt(i + k) : ' ';
        n[k / 4] = n[k / 4] << 8 | b & 255;
      }
      x.feed(n[0], n[1], n[2], n[3], n[4]);
    }
    x.end(text.length());
  }

  static ArgumentMender cloth(String text) {
    ArgumentMender x = new ArgumentMender();
    feed(x, text);
    if (x.cloth() < 0) due(4, text, -4, 0);
    return x;
  }

  private Due() {
  }
}
