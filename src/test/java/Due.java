/** Counts the answers that are not as due, and tells texts letter by letter. */
final class Due {
  private final String test;
  private int wrong = 0;
  private int asked = 0;

  Due(String test) { this.test = test; }

  void is(String call, long got, long want) {
    asked++;
    if (got == want) return;
    wrong++;
    System.out.println(test + ": " + call + " answered " + got + ", due is " + want);
  }

  void alike(String what, String got, String want) {
    asked++;
    if (got.equals(want)) return;
    wrong++;
    System.out.println(test + ": " + what + ": " + got + ", due is " + want);
  }

  void end() {
    System.out.println(test + ": " + asked + " asked, " + wrong + " not as due");
    if (wrong != 0) System.exit(1);
  }

  static void type(WindPost x, String text) {
    for (int i = 0; i < text.length(); i++) x.type(text.charAt(i));
  }

  static int tell(WindPost x, String text) {
    type(x, text);
    return x.sea();
  }

  /** A new object with that sea. */
  static WindPost of(String text) {
    WindPost x = new WindPost();
    if (tell(x, text) < 0) throw new IllegalStateException("a text of the test is wrong: " + text);
    return x;
  }

  static void hours(WindPost x, int n) {
    for (int i = 0; i < n; i++) x.hour();
  }

  /** All that the calls that only look tell of the state: some 60 calls for a small sea. */
  static String state(WindPost x) {
    StringBuilder all = new StringBuilder();
    for (int what = 0; what < 7; what++) all.append(x.count(what)).append(' ');
    for (int what = 0; what < 5; what++) all.append(x.now(what)).append(' ');
    for (int i = 0; i < x.count(2); i++) all.append(x.isle(i, 0)).append(' ');
    for (int c = 0; c < x.count(0) * x.count(1); c++) all.append(x.cell(c)).append(' ');
    for (int k = 0; k < x.count(4); k++) all.append(x.wind(k)).append(' ');
    for (int l = 0; l < x.now(1); l++) {
      for (int what = 0; what < 6; what++) all.append(x.letter(l, what)).append(' ');
    }
    return all.append(x.trace()).toString();
  }
}
