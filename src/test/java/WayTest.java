/** Promises 15 to 19: where a letter is, when it arrives, its blots, how it goes round, tangles. */
public final class WayTest {
  private static final Due due = new Due("WayTest");
  private static final String SEA = "g5 2;i0;i2;i4;i7;x8;b1 1 2 4;f3;";

  public static void main(String[] args) {
    where();
    comes();
    blots();
    loop();
    loopNone();
    tangled();
    tangledFarAhead();
    wrong();
    due.end();
  }

  private static WindPost three() {
    WindPost x = Due.of(SEA);
    x.lets(0, 2, 2);
    x.lets(0, 1, 1);
    x.lets(3, 0, 2);
    return x;
  }

  private static void where() {
    WindPost x = three();
    int[] first = {0, 1, 2, 7, 7, 7, 7, 2, 2, 3, 4, 4};
    for (int n = 0; n < first.length; n++) due.is("15: where(0, " + n + ")", x.where(0, n), first[n]);
    due.is("15: where(0, 60)", x.where(0, 60), 4);
    due.is("15: where(2, 17)", x.where(2, 17), 4);
    due.is("15: where(2, 18)", x.where(2, 18), 0);
    Due.hours(x, 6);
    for (int n = 0; n < 6; n++) due.is("15: six hours on, " + n, x.where(0, n), first[n + 6]);
    due.is("15: arrived, it stays", x.where(1, 60), 2);
    x.net(1, 1);
    due.is("15: caught, it stays", x.where(0, 60), 2);
    x.turn(2, 0);
    due.is("15: as the winds are now", x.where(0, 1), 2);
    x.turn(2, 3);
    due.is("15: another wind", x.where(0, 1), 6);
  }

  private static void comes() {
    WindPost x = three();
    due.is("16: comes(0)", x.comes(0), 10);
    due.is("16: comes(1)", x.comes(1), 1);
    due.is("16: comes(2)", x.comes(2), 18);
    x.net(1, 1);
    due.is("16: a net on its way", x.comes(0), WindPost.NONE);
    due.is("16: a net where it goes", x.comes(1), 1);
    x.undo();
    x.hour();
    due.is("16: it did", x.comes(1), 0);
    due.is("16: an hour on", x.comes(0), 9);
    WindPost y = Due.of("g4 2;i0;i1;i2;b1;f2;");
    y.lets(0, 2, 1);
    y.net(1, 1);
    y.hour();
    y.net(1, 0);
    due.is("16: caught", y.comes(0), WindPost.NONE);
    y.lets(0, 1, 2);
    due.is("16: never blown", y.comes(1), WindPost.NONE);
    // One cell east in each round of 12 hours, and one south in each, so all are gone through.
    WindPost far = Due.of("g6 5;i0;i5;b1 4 4 4 4 4 4 4 4 4 4 4;f2;");
    far.lets(0, 1, 1);
    due.is("16: beyond 48 hours", far.comes(0), 49);
    far.hour();
    due.is("16: behind the hour", far.comes(0), 48);
  }

  private static void blots() {
    WindPost x = three();
    int[] first = {1, 1, 3, 11, 11, 11, 11, 11, 11, 11, 15};
    for (int n = 0; n < first.length; n++) due.is("17: blots(0, " + n + ")", x.blots(0, n), first[n]);
    due.is("17: blots(0, 60)", x.blots(0, 60), 15);
    due.is("17: blots(1, 60)", x.blots(1, 60), 3);
    x.net(3, 1);
    due.is("17: no blot where it is caught", x.blots(0, 60), 3);
    Due.hours(x, 3);
    due.is("17: caught", x.blots(0, 0), 3);
    due.is("17: arrived", x.blots(1, 0), 3);
  }

  private static int loopOf(String text, int weight) {
    WindPost x = Due.of(text);
    x.lets(0, 1, weight);
    return x.loop(0);
  }

  private static void loop() {
    due.is("18: two cells, a wind", loopOf("g2 2;i0;i3;b1;", 2), 2);
    due.is("18: two cells, two winds", loopOf("g2 2;i0;i3;b1 1;", 2), 2);
    due.is("18: two cells, three winds", loopOf("g2 2;i0;i3;b1 1 1;", 2), 6);
    due.is("18: round at once", loopOf("g2 2;i0;i3;b1;", 1), 1);
    due.is("18: too heavy, three winds", loopOf("g2 2;i0;i3;b1 1 1;", 3), 3);
    due.is("18: no wind told", loopOf("g2 2;i0;i3;", 1), 1);
    due.is("18: forth and back", loopOf("g4 2;i0;i2;b1 3;f2;", 1), 2);
    due.is("18: six cells, twelve winds", loopOf("g6 5;i0;i12;b1 4 4 4 4 4 4 4 4 4 4 4;f2;", 1), 72);
    due.is("18: all thirty cells", loopOf("g6 5;i0;i29;x28;b1 2;f2;", 1), loopByWhere("g6 5;i0;i29;x28;b1 2;f2;"));
    due.is("18: held up behind 48 hours", loopOf("g6 5;i0;i29;x5;b4 4 4 4 4 4 4 4 4 4 4 1;f2;", 1), 12);
    due.is("18: held up, but not at first", loopOf("g6 2;i0;i11;x4;b1;f2;", 1), 1);
    WindPost x = Due.of("g4 3;i0;i8;b1 3;f2;");
    x.lets(0, 1, 1);
    x.hour();
    due.is("18: an hour on", x.loop(0), 2);
    x.turn(1, 1);
    due.is("18: turned", x.loop(0), 4);
  }

  /** Looked at hour by hour, with no look at how it is reckoned. */
  private static int loopByWhere(String text) {
    WindPost x = Due.of(text);
    x.lets(0, 1, 1);
    if (x.comes(0) != WindPost.NONE) return WindPost.NONE;
    int round = Math.max(1, x.count(4));
    for (int n = round; n <= 60; n += round) {
      if (x.where(0, 60) == x.where(0, 60 - n) && alikeEver(x, n)) return n;
    }
    return 0;
  }

  private static boolean alikeEver(WindPost x, int n) {
    for (int t = 0; t + n <= 60 && t < 20; t++) {
      if (x.where(0, 60 - t) != x.where(0, 60 - t - n)) return false;
    }
    return true;
  }

  private static void loopNone() {
    due.is("18: it arrives", loopOf("g4 2;i0;i2;b1;f2;", 1), WindPost.NONE);
    WindPost x = Due.of("g4 2;i0;i1;i2;b1;f2;");
    x.lets(0, 2, 1);
    x.lets(0, 1, 1);
    x.net(1, 1);
    due.is("18: it will be caught", x.loop(0), WindPost.NONE);
    x.hour();
    x.net(1, 0);
    due.is("18: it is caught", x.loop(0), WindPost.NONE);
    due.is("18: it has arrived", x.loop(1), WindPost.NONE);
  }

  private static void tangled() {
    WindPost x = Due.of("g6 2;i0;i3;i11;b1;f4;");
    x.lets(0, 2, 2);
    x.lets(0, 2, 1);
    x.lets(1, 2, 4);
    x.lets(1, 2, 1);
    due.is("19: one isle", x.tangled(0, 1), 0);
    due.is("19: on one way", x.tangled(1, 2), 1);
    due.is("19: the other way round", x.tangled(2, 1), 1);
    due.is("19: never", x.tangled(0, 2), WindPost.NONE);
    due.is("19: by turns", x.tangled(0, 3), 3);
    x.hour();
    due.is("19: an hour on", x.tangled(1, 2), 0);
    WindPost two = Due.of("g6 5;i0;i7;i29;b1 2 4;f3;");
    two.lets(0, 2, 1);
    two.lets(1, 2, 2);
    due.is("19: both by two winds", two.tangled(0, 1), 2);
    due.is("19: both, the other way round", two.tangled(1, 0), 2);
    // Letters 0 and 1, to the isle on the first one's way: one arrives as the other one comes.
    WindPost y = Due.of("g6 2;i0;i3;i11;b1;f4;");
    y.lets(0, 1, 1);
    y.lets(1, 2, 4);
    due.is("19: it arrives there", y.tangled(0, 1), WindPost.NONE);
    y.hour();
    due.is("19: it has arrived", y.tangled(0, 1), WindPost.NONE);
    WindPost z = Due.of("g6 2;i0;i3;i11;b1;f4;");
    z.lets(0, 2, 1);
    z.lets(1, 2, 4);
    z.net(1, 1);
    due.is("19: it is caught there", z.tangled(0, 1), WindPost.NONE);
    z.hour();
    due.is("19: it was caught", z.tangled(1, 0), WindPost.NONE);
  }

  private static void tangledFarAhead() {
    // Each round of 12 hours brings the first one cell on; the other one is too heavy.
    WindPost x = Due.of("g6 5;i0;i5;i29;b4 4 4 4 4 4 4 4 4 4 4 1;f2;");
    x.lets(0, 2, 1);
    x.lets(1, 2, 5);
    due.is("19: 60 hours", x.tangled(0, 1), 60);
    // Two cells east and two south a round: cell 18 in the ninth one, isle 2's column never.
    WindPost late = Due.of("g6 5;i0;i18;i29;b1 2 4 4 4 4 4 4 4 4 4 4;f3;");
    late.lets(0, 2, 1);
    late.lets(1, 2, 5);
    due.is("19: 98 hours", late.tangled(0, 1), 98);
    WindPost last = Due.of("g6 5;i28;i26;i5;x19;x25;b4 4 4 4 2 4 3 4 4 4 4;f5;");
    last.lets(0, 2, 1);
    last.lets(1, 2, 4);
    due.is("19: 401 hours are too many", last.tangled(0, 1), WindPost.NONE);
    last.hour();
    due.is("19: 400 hours", last.tangled(0, 1), 400);
    last.hour();
    due.is("19: 399 hours", last.tangled(0, 1), 399);
    WindPost y = Due.of("g6 5;i0;i20;i17;b4 4 4 4 4 4 4 4 4 4 1 2;f2;");
    y.lets(0, 2, 1);
    y.lets(1, 0, 5);
    due.is("19: 240 hours or so", y.tangled(0, 1), tangledByHours("g6 5;i0;i20;i17;b4 4 4 4 4 4 4 4 4 4 1 2;f2;"));
  }

  private static int tangledByHours(String text) {
    WindPost x = Due.of(text);
    x.lets(0, 2, 1);
    x.lets(1, 0, 5);
    for (int n = 0; n <= 400; n++) {
      if (x.now(2) != 3) return WindPost.NONE;
      if (x.letter(0, 3) == x.letter(1, 3)) return n;
      x.hour();
    }
    return WindPost.NONE;
  }

  private static void wrong() {
    WindPost x = three();
    String before = Due.state(x);
    int[] noLetters = {-1, 3, 5, Integer.MAX_VALUE, Integer.MIN_VALUE};
    for (int l : noLetters) {
      due.is("15: where(" + l + ", 0)", x.where(l, 0), WindPost.BAD);
      due.is("16: comes(" + l + ")", x.comes(l), WindPost.BAD);
      due.is("17: blots(" + l + ", 0)", x.blots(l, 0), WindPost.BAD);
      due.is("18: loop(" + l + ")", x.loop(l), WindPost.BAD);
      due.is("19: tangled(" + l + ", 0)", x.tangled(l, 0), WindPost.BAD);
      due.is("19: tangled(0, " + l + ")", x.tangled(0, l), WindPost.BAD);
    }
    int[] noHours = {-1, 61, Integer.MAX_VALUE, Integer.MIN_VALUE};
    for (int n : noHours) {
      due.is("15: where(0, " + n + ")", x.where(0, n), WindPost.BAD);
      due.is("17: blots(0, " + n + ")", x.blots(0, n), WindPost.BAD);
    }
    due.is("19: tangled(1, 1)", x.tangled(1, 1), WindPost.BAD);
    x.where(0, 60);
    x.comes(0);
    x.blots(0, 60);
    x.loop(0);
    x.tangled(0, 2);
    due.alike("15 to 19: nothing changes", Due.state(x), before);
  }
}
