/** Counts answers that are not as due. */
final class Due {
  private int wrong = 0;
  private int seen = 0;

  void is(String call, long got, long want) {
    seen++;
    if (got != want) {
      wrong++;
      System.out.println(call + " answered " + got + ", due is " + want);
    }
  }

  /** Feeds a text and answers what text() does. */
  static int read(RoundTheModel x, String text) {
    for (int i = 0; i < text.length(); i++) x.feed(text.charAt(i));
    return x.text();
  }

  void end() {
    System.out.println(wrong == 0 ? seen + " answers are as due" : wrong + " answers of " + seen + " are not as due");
    if (wrong != 0) System.exit(1);
  }
}
