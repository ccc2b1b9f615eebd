/** Promises 20 to 24: when to let one up, how heavy, words, nets, and who did it. */
public final class WhenTest {
  private static final Due due = new Due("WhenTest");
  private static final int NONE = WindPost.NONE, BAD = WindPost.BAD;
  /** Isles 0, 1, 2, 3 on 0, 2, 4, 7; a hill on 8; east, east, south, calm. */
  private static final String SEA = "g5 2;i0;i2;i4;i7;x8;b1 1 2 4;f3;";

  /** What is let up later than in hour 0 is blown west first, and never comes to cell 1. */
  private static final String JUST_NOW = "g6 3;i0;i1;b1 4 4 4 4 4 4 4 4 4 4 3;f2;";

  public static void main(String[] args) {
    soonest();
    soonestWaits();
    lightest();
    words();
    nets();
    netsMore();
    who();
    wrongWays();
    wrongNumbers();
    due.end();
  }

  private static void soonest() {
    WindPost x = Due.of(SEA);
    due.is("20: soonest(0, 1, 1, 0)", x.soonest(0, 1, 1, 0), 0);
    due.is("20: soonest(0, 1, 1, 1)", x.soonest(0, 1, 1, 1), 1);
    // In hour 0 it goes to cell 1, in 1 to isle 1; what is let up later waits a round.
    due.is("20: soonest(0, 1, 2, 0)", x.soonest(0, 1, 2, 0), 0);
    due.is("20: soonest(0, 1, 2, 1)", x.soonest(0, 1, 2, 1), 2);
    due.is("20: too heavy", x.soonest(0, 1, 3, 0), NONE);
    due.is("20: too heavy, when", x.soonest(0, 1, 3, 1), NONE);
    // South from 2 is 7: at hour 2 for the first time, so any k to 2 will do.
    due.is("20: soonest(1, 3, 2, 0)", x.soonest(1, 3, 2, 0), 2);
    due.is("20: soonest(1, 3, 2, 1)", x.soonest(1, 3, 2, 1), 3);
    x.lets(0, 1, 1);
    due.is("20: letters don't matter", x.soonest(0, 1, 1, 0), 0);
    x.hour();
    // In hour 1 from 0 to 2 at once.
    due.is("20: an hour on", x.soonest(0, 1, 1, 1), 1);
    Due.hours(x, 1);
    // In hour 2 it goes round south to where it was, so that k = 0, 1, 2 come alike.
    due.is("20: two hours on, k", x.soonest(0, 1, 1, 0), 0);
    due.is("20: two hours on, when", x.soonest(0, 1, 1, 1), 3);
  }

  private static void soonestWaits() {
    WindPost x = Due.of("g6 2;i0;i1;b4 4 4 4 4 4 4 4 4 4 4 1;f2;");
    // All of k = 0 .. 11 arrive by the wind of hour 11: the least is told.
    due.is("20: of several the least", x.soonest(0, 1, 1, 0), 0);
    due.is("20: of several, when", x.soonest(0, 1, 1, 1), 12);
    WindPost y = Due.of("g6 2;i0;i2;b2 4 4 4 4 4 4 4 4 4 4 1;f3;");
    due.is("20: the twelfth, when", y.soonest(0, 1, 1, 1), 12);
    WindPost z = Due.of("g6 3;i0;i1;b2 2 2 4 4 4 4 4 4 4 4 1;f2;");
    due.is("20: round and there", z.soonest(0, 1, 1, 1), 12);
    WindPost last = Due.of("g6 3;i0;i1;b2 4 4 4 4 4 4 4 4 4 3 1;f2;");
    due.is("20: just by k = 11", last.soonest(0, 1, 1, 0), 11);
    due.is("20: just by k = 11, when", last.soonest(0, 1, 1, 1), 12);
    last.net(1, 1);
    due.is("20: a net where it goes", last.soonest(0, 1, 1, 1), 12);
    WindPost net = Due.of("g6 2;i0;i1;i2;b1;f2;");
    net.net(1, 1);
    due.is("20: a net on its way", net.soonest(0, 2, 1, 0), NONE);
    net.net(1, 0);
    due.is("20: taken in", net.soonest(0, 2, 1, 1), 2);
    // A cell east and one south by rounds: by k = 0 in 278 hours, by k = 1 (south first) in 217.
    WindPost far = Due.of("g6 5;i0;i24;b1 2 4 4 4 4 4 4 4 4 4 4;f2;");
    due.is("20: far", far.soonest(0, 1, 1, 0), 1);
    due.is("20: far, when", far.soonest(0, 1, 1, 1), 218);
  }

  private static void lightest() {
    WindPost x = Due.of(SEA);
    due.is("21: lightest(0, 1, 1)", x.lightest(0, 1, 1), 1);
    due.is("21: lightest(0, 3, 1)", x.lightest(0, 3, 1), NONE);
    // Weight 1 goes 0, 2, 4, south 4; weight 2 goes 0, 1, 2, 7.
    due.is("21: lightest(0, 3, 2)", x.lightest(0, 3, 2), NONE);
    due.is("21: lightest(0, 3, 3)", x.lightest(0, 3, 3), 2);
    WindPost y = Due.of("g6 2;i0;i1;i2;i5;b1;f6;");
    due.is("21: one cell an hour", y.lightest(0, 1, 1), 5);
    due.is("21: two cells", y.lightest(0, 2, 1), 4);
    due.is("21: five cells", y.lightest(0, 3, 1), 1);
    due.is("21: time enough", y.lightest(0, 1, 60), 1);
    due.is("21: by fives, five hours", y.lightest(0, 1, 5), 1);
    due.is("21: by fives, four hours", y.lightest(0, 1, 4), 5);
    y.net(3, 1);
    due.is("21: a net on its way", y.lightest(0, 1, 60), 5);
    due.is("21: none at all", Due.of("i0;i1;").lightest(0, 1, 60), NONE);
    WindPost three = Due.of("g6 2;i0;i3;b1;f3;");
    due.is("21: there is no weight 0", three.lightest(0, 1, 1), NONE);
    due.is("21: one cell an hour, three hours", three.lightest(0, 1, 3), 2);
    WindPost z = Due.of("g6 5;i0;i5;b1 4 4 4 4 4 4 4 4 4 4 4;f2;");
    due.is("21: 49 hours", z.lightest(0, 1, 49), 1);
    due.is("21: 48 hours", z.lightest(0, 1, 48), NONE);
    z.hour();
    due.is("21: from now, 60 hours", z.lightest(0, 1, 60), 1);
    due.is("21: from now, 59 hours", z.lightest(0, 1, 59), NONE);
  }

  private static void words() {
    WindPost x = Due.of("g4 2;i0;i1;i2;i4;b1;f2;");
    due.is("22: words(0)", x.words(0), 6);
    due.is("22: words(1)", x.words(1), 5);
    due.is("22: words(3)", x.words(3), 0);
    x.net(1, 1);
    due.is("22: words(0), a net", x.words(0), 6);
    due.is("22: words(2), a net", x.words(2), 2);
    due.is("22: words(1), its own net", x.words(1), 5);
    due.is("22: an isle alone", Due.of("i0;b1;").words(0), 0);
    // By 2, 3, 4 cells it comes to no odd column or not to column 1, by 5 never off its row.
    due.is("22: just by weight 5", Due.of("g6 5;i0;i7;b1 2;f6;").words(1), 1);
    due.is("22: by weight 4, two cells", Due.of("g4 2;i0;i2;b1 4 4 3;f6;").words(0), 2);
    due.is("22: just by k = 11", Due.of("g6 3;i0;i1;b2 4 4 4 4 4 4 4 4 4 3 1;f2;").words(1), 1);
    due.is("22: just by k = 0", Due.of(JUST_NOW).words(1), 1);
    due.is("22: isle 5", Due.of("g6 2;i0;i1;i2;i3;i4;i5;b1;f2;").words(5), 31);
  }

  private static void nets() {
    WindPost x = Due.of("g6 2;i0;i1;i2;i3;b1;f2;");
    due.is("23: one on the way, the least", x.nets(0, 3, 1), 2);
    due.is("23: none between", x.nets(0, 1, 1), NONE);
    due.is("23: too heavy: none is needed", x.nets(0, 1, 2), 0);
    due.is("23: round: isles 0, 1", x.nets(3, 2, 1), 1);
    x.net(2, 1);
    due.is("23: one is there", x.nets(0, 3, 1), 0);
    x.net(2, 0);
    x.net(3, 1);
    due.is("23: where it goes it doesn't count", x.nets(0, 3, 1), 2);
    x.net(0, 1);
    due.is("23: where it is from neither", x.nets(0, 3, 1), 2);
    due.is("23: just by k = 0", Due.of(JUST_NOW).nets(0, 1, 1), NONE);
    due.is("23: just by k = 11", Due.of("g6 3;i0;i1;b2 4 4 4 4 4 4 4 4 4 3 1;f2;").nets(0, 1, 1), NONE);
    due.is("23: no winds", Due.of("i0;i1;").nets(0, 1, 1), 0);
  }

  private static void netsMore() {
    // By one wind over isle 1 (cell 1), by another one over isle 2 (cell 4), to isle 3 on cell 5.
    WindPost x = Due.of("g4 2;i0;i1;i4;i5;b1 2;f2;");
    due.is("23: both", x.nets(0, 3, 1), 6);
    x.net(1, 1);
    due.is("23: the other one", x.nets(0, 3, 1), 4);
    x.net(2, 1);
    due.is("23: no more", x.nets(0, 3, 1), 0);
    x.net(1, 0);
    due.is("23: the first one", x.nets(0, 3, 1), 2);
    // The same with an isle that all pass behind them, told last: one is fewer than two.
    WindPost y = Due.of("g4 4;i0;i1;i4;i10;i5;b1 2;f2;");
    due.is("23: fewer before less", y.nets(0, 3, 1), 16);
    WindPost z = Due.of("g4 4;i0;i5;i1;i4;i10;b1 2;f2;");
    due.is("23: fewer, told first", z.nets(0, 4, 1), 2);
  }

  private static void who() {
    WindPost x = Due.of("g6 2;i0;i1;i2;i3;b1;f2;");
    due.is("24: from next to it", x.who(3, 1, 12), 4);
    due.is("24: from two cells off", x.who(3, 1, 14), 2);
    due.is("24: from all", x.who(3, 1, 15), 1);
    due.is("24: by none such", x.who(3, 1, 13), 0);
    due.is("24: without its own", x.who(3, 1, 7), 0);
    due.is("24: no blots at all", x.who(3, 1, 0), 0);
    due.is("24: too heavy", x.who(3, 2, 12), 0);
    x.net(2, 1);
    due.is("24: a net between", x.who(3, 1, 15), 0);
    due.is("24: the net's own", x.who(3, 1, 12), 4);
    x.net(3, 1);
    due.is("24: where it goes", x.who(3, 1, 12), 4);
    due.is("24: just by k = 0", Due.of(JUST_NOW).who(1, 1, 3), 1);
    due.is("24: just by k = 11", Due.of("g6 3;i0;i1;b2 4 4 4 4 4 4 4 4 4 3 1;f2;").who(1, 1, 3), 1);
    // Two cells an hour: from 0 and from 4 by even cells alone, all round.
    WindPost y = Due.of("g6 2;i0;i2;i4;b1;f3;");
    due.is("24: all round", y.who(0, 1, 7), 2);
    // By k alone it is one way or the other.
    WindPost z = Due.of("g4 2;i0;i1;i4;i5;b1 2;f2;");
    due.is("24: by the one way", z.who(3, 1, 11), 1);
    due.is("24: by the other way", z.who(3, 1, 13), 1);
    due.is("24: from the one next to it", z.who(3, 1, 10), 2);
    // East or west by turns, so that both neighbours come with all three blots.
    WindPost both = Due.of("g4 2;i0;i2;i1;i3;b1 1 1 3 3 3;f2;");
    due.is("24: two of them", both.who(1, 1, 2 | 4 | 1) & 1, 1);
  }

  private static void wrongWays() {
    WindPost x = Due.of(SEA);
    String before = Due.state(x);
    int[][] ways = {{0, 0}, {3, 3}, {4, 0}, {0, 4}, {-1, 0}, {0, -1}, {Integer.MAX_VALUE, 0},
        {0, Integer.MIN_VALUE}};
    for (int[] w : ways) {
      String told = w[0] + ", " + w[1];
      due.is("20: soonest(" + told + ", 1, 0)", x.soonest(w[0], w[1], 1, 0), BAD);
      due.is("21: lightest(" + told + ", 1)", x.lightest(w[0], w[1], 1), BAD);
      due.is("23: nets(" + told + ", 1)", x.nets(w[0], w[1], 1), BAD);
    }
    int[] isles = {-1, 4, 6, 31, Integer.MAX_VALUE, Integer.MIN_VALUE};
    for (int i : isles) {
      due.is("22: words(" + i + ")", x.words(i), BAD);
      due.is("24: who(" + i + ", 1, 3)", x.who(i, 1, 3), BAD);
    }
    due.alike("20 to 24: nothing changes", Due.state(x), before);
  }

  private static void wrongNumbers() {
    WindPost x = Due.of(SEA);
    String before = Due.state(x);
    int[] weights = {0, -1, 6, Integer.MAX_VALUE, Integer.MIN_VALUE};
    for (int w : weights) {
      due.is("20: soonest(0, 1, " + w + ", 0)", x.soonest(0, 1, w, 0), BAD);
      due.is("23: nets(0, 1, " + w + ")", x.nets(0, 1, w), BAD);
      due.is("24: who(1, " + w + ", 3)", x.who(1, w, 3), BAD);
    }
    due.is("20: soonest(0, 1, 1, 2)", x.soonest(0, 1, 1, 2), BAD);
    due.is("20: soonest(0, 1, 1, -1)", x.soonest(0, 1, 1, -1), BAD);
    int[] hours = {0, -1, 61, Integer.MAX_VALUE, Integer.MIN_VALUE};
    for (int n : hours) due.is("21: lightest(0, 1, " + n + ")", x.lightest(0, 1, n), BAD);
    int[] blots = {16, -1, 31, 64, Integer.MAX_VALUE, Integer.MIN_VALUE};
    for (int b : blots) due.is("24: who(1, 1, " + b + ")", x.who(1, 1, b), BAD);
    x.soonest(0, 1, 1, 0);
    x.lightest(0, 1, 60);
    x.words(0);
    x.nets(0, 2, 1);
    x.who(1, 1, 15);
    due.alike("20 to 24: nothing changes by looking", Due.state(x), before);
  }
}
