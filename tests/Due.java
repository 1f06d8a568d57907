/** What the tests share: comparing an answer with the one that is due, and putting a text on the TAPE. */
final class Due {
  static int wrong = 0;
  static int told = 0;

  private Due() { }

  static void due(int promise, String call, int got, int want) {
    told++;
    if (got != want) {
      wrong++;
      System.out.println("promise " + promise + ": " + call + " answered " + got + ", due is " + want);
    }
  }

  static void due(int promise, String call, boolean got, boolean want) { due(promise, call, got ? 1 : 0, want ? 1 : 0); }

  static void feed(CountedTokens x, String text) {
    for (int at = 0; at < text.length(); at += 20) {
      int[] five = new int[5];
      for (int i = 0; i < 20 && at + i < text.length(); i++) five[i / 4] |= text.charAt(at + i) << 24 - 8 * (i % 4);
      x.feed(five[0], five[1], five[2], five[3], five[4]);
    }
    x.end(text.length());
  }

  static int text(CountedTokens x, int k, String text) {
    feed(x, text);
    return x.text(k);
  }

  static void close(String name) {
    System.out.println(name + ": " + told + " answers, " + wrong + " wrong");
    if (wrong != 0) System.exit(1);
  }
}
