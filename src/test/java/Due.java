/** Counts the answers that are not as due, and tells texts letter by letter. */
final class Due {
  interface Made { WindPost make(); }

  interface Call { long ask(WindPost x); }

  interface CallOf { long ask(WindPost x, int a); }

  private final String test;
  private int wrong = 0;
  private int asked = 0;

  Due(String test) { this.test = test; }

  void is(String call, long got, long want) {
    asked++;
    if (got == want) return;
    wrong++;
    System.out.println(test + ": " + call + " answered " + got + ", due is " + want);
  }

  void alike(String what, String got, String want) {
    asked++;
    if (got.equals(want)) return;
    wrong++;
    System.out.println(test + ": " + what + ": " + got + ", due is " + want);
  }

  /** The answer, and that an object that refused the call is as one that was never asked it. */
  void refused(String call, Made made, Call asked, long want) {
    WindPost x = made.make();
    is(call, asked.ask(x), want);
    alike(call + " changes nothing", all(x), all(made.make()));
  }

  /** A number from least to most is taken, at both ends; the next ones and those far off are refused. */
  void edges(String call, int least, int most, long refusal, Made made, CallOf asked) {
    for (int a : new int[] {least - 1, most + 1, Integer.MIN_VALUE, Integer.MAX_VALUE}) {
      refused(call + " by " + a, made, x -> asked.ask(x, a), refusal);
    }
    for (int a : new int[] {least, most}) {
      long got = asked.ask(made.make(), a);
      is(call + " by " + a + " is taken (it answers " + got + ")", got == refusal ? 0 : 1, 1);
    }
  }

  void end() {
    System.out.println(test + ": " + asked + " asked, " + wrong + " not as due");
    if (wrong != 0) System.exit(1);
  }

  static void type(WindPost x, String text) {
    for (int i = 0; i < text.length(); i++) x.type(text.charAt(i));
  }

  static int tell(WindPost x, String text) {
    type(x, text);
    return x.sea();
  }

  /** A new object with that sea. */
  static WindPost of(String text) {
    WindPost x = new WindPost();
    if (tell(x, text) < 0) throw new IllegalStateException("a text of the test is wrong: " + text);
    return x;
  }

  static void hours(WindPost x, int n) {
    for (int i = 0; i < n; i++) x.hour();
  }

  /** All that can be found out of an object, to its end: what may be undone, the images, the text. */
  static String all(WindPost x) {
    StringBuilder all = new StringBuilder(state(x));
    for (int n = 0; n < 11 && x.undo() >= 0; n++) all.append(" undone ").append(brief(x));
    for (int image = 0; image < 2; image++) all.append(" image ").append(x.back(image)).append(' ').append(brief(x));
    return all.append(" text ").append(x.sea()).append(' ').append(state(x)).toString();
  }

  /** What an image has, and no more. */
  static String brief(WindPost x) {
    StringBuilder brief = new StringBuilder();
    for (int what = 0; what < 4; what++) brief.append(x.now(what)).append(' ');
    for (int k = 0; k < x.count(4); k++) brief.append(x.wind(k)).append(' ');
    for (int l = 0; l < x.now(1); l++) {
      for (int what = 0; what < 6; what++) brief.append(x.letter(l, what)).append(' ');
    }
    return brief.toString();
  }

  /** An object with something in each place: letters, nets, ten that may be undone, images, a text, a trace. */
  static WindPost rich() {
    WindPost x = of("g3 2;i0;i2;i5;x4;b1 2;f2;");
    x.net(2, 1);
    x.lets(0, 1, 1);
    x.keep(0);
    x.hour();
    x.turn(1, 0);
    x.lets(1, 2, 1);
    x.net(0, 1);
    x.hour();
    x.keep(1);
    for (int n = 0; n < 4; n++) x.net(1, n % 2);
    x.lets(2, 0, 5);
    x.rate(3, 0);
    type(x, "i1;x2;b3;");
    return x;
  }

  /** All that the calls that only look tell of the state: some 60 calls for a small sea. */
  static String state(WindPost x) {
    StringBuilder all = new StringBuilder();
    for (int what = 0; what < 7; what++) all.append(x.count(what)).append(' ');
    for (int what = 0; what < 5; what++) all.append(x.now(what)).append(' ');
    for (int i = 0; i < x.count(2); i++) all.append(x.isle(i, 0)).append(' ').append(x.isle(i, 1)).append(' ');
    for (int c = 0; c < x.count(0) * x.count(1); c++) all.append(x.cell(c)).append(' ');
    for (int k = 0; k < x.count(4); k++) all.append(x.wind(k)).append(' ');
    for (int l = 0; l < x.now(1); l++) {
      for (int what = 0; what < 6; what++) all.append(x.letter(l, what)).append(' ');
    }
    return all.append(x.trace()).toString();
  }
}
