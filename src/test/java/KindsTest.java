/** Promises 28 to 30 and 32: letters by kinds, images, the trace. */
public final class KindsTest {
  private static final Due due = new Due("KindsTest");
  private static final int BAD = WindPost.BAD, NO = WindPost.NO;

  public static void main(String[] args) {
    rate();
    trace();
    rateRefused();
    keepAndBack();
    backLeavesTheRest();
    imagesRefused();
    due.end();
  }

  /** Letter 0 is of weight 2, has three blots and is on cell 4 at hour 4; letter 1 is of weight 5. */
  private static WindPost someHours() {
    WindPost x = Due.of("g6 2;i0;i1;i2;i11;b1;f3;");
    x.lets(0, 3, 2);
    x.lets(2, 0, 5);
    Due.hours(x, 4);
    return x;
  }

  private static void rate() {
    WindPost x = someHours();
    int[] first = {2, 5, -2, 10, -2, 6};
    int[] second = {5, 6, 3, 12, 4, 9};
    for (int kind = 0; kind < 6; kind++) {
      due.is("28: rate(" + kind + ", 0)", x.rate(kind, 0), first[kind]);
      due.is("28: rate(" + kind + ", 1)", x.rate(kind, 1), second[kind]);
    }
    WindPost y = Due.of("g6 2;i0;i1;i2;b1;f2;");
    y.lets(0, 1, 1);
    y.lets(0, 2, 1);
    y.hour();
    y.net(2, 1);
    y.lets(1, 0, 1);
    y.hour();
    due.is("28: arrived, as a bill", y.rate(3, 0), 6);
    due.is("28: caught, as a goose", y.rate(2, 2), -1);
    due.is("28: caught, as a vow", y.rate(4, 2), 1);
  }

  private static void trace() {
    WindPost x = someHours();
    int[] adds = {1, 11, 101, 1011, 10101, 100001};
    long all = 0;
    for (int kind = 0; kind < 6; kind++) {
      x.rate(kind, kind % 2);
      all += adds[kind];
      due.is("32: trace() behind kind " + kind, x.trace(), all);
    }
    x.undo();
    due.is("32: not undone", x.trace(), all);
    x.keep(0);
    x.rate(0, 0);
    x.back(0);
    due.is("32: not in an image", x.trace(), all + 1);
    for (int n = 0; n < 100; n++) x.rate(5, 0);
    due.is("32: a hundred kites", x.trace(), all + 1 + 10000100L);
    Due.tell(x, "i0;");
    due.is("32: not told anew", x.trace(), all + 1 + 10000100L);
  }

  private static void rateRefused() {
    WindPost x = someHours();
    String before = Due.state(x);
    int[][] wrong = {{6, 0}, {-1, 0}, {0, 2}, {0, -1}, {3, 5}, {Integer.MAX_VALUE, 0}, {1, Integer.MIN_VALUE}};
    for (int[] w : wrong) due.is("28: rate(" + w[0] + ", " + w[1] + ")", x.rate(w[0], w[1]), NO);
    due.alike("28: nothing changes, nor does the trace", Due.state(x), before);
  }

  private static void keepAndBack() {
    WindPost x = someHours();
    due.is("29: keep(0)", x.keep(0), 4);
    String kept = Due.state(x);
    x.net(1, 1);
    x.turn(0, 2);
    x.lets(1, 0, 1);
    x.hour();
    due.is("29: keep(1)", x.keep(1), 5);
    x.hour();
    due.is("30: back(0)", x.back(0), 4);
    due.is("30: nothing can be undone", x.now(4), 0);
    due.is("30: undo()", x.undo(), WindPost.STATE);
    due.alike("30: as it was", bare(Due.state(x)), bare(kept));
    due.is("30: back(1)", x.back(1), 5);
    due.is("30: its net", x.now(3), 2);
    due.is("30: its wind", x.wind(0), 2);
    due.is("30: its letters", x.now(1), 3);
    x.hour();
    due.is("30: one may be undone", x.now(4), 1);
    due.is("30: back(1) again", x.back(1), 5);
    due.is("29: kept anew", x.keep(0), 5);
    due.is("30: back(0), kept anew", x.back(0), 5);
    due.is("29: keep() takes nothing that may be undone", keptUndo(x), 1);
  }

  private static int keptUndo(WindPost x) {
    x.hour();
    x.keep(0);
    return x.now(4);
  }

  /** The state without how many may be undone (the twelfth number told). */
  private static String bare(String state) {
    String[] parts = state.split(" ");
    parts[11] = "";
    return String.join(" ", parts);
  }

  private static void backLeavesTheRest() {
    WindPost x = someHours();
    x.keep(1);
    Due.type(x, "i0");
    x.rate(0, 0);
    x.back(1);
    due.is("30: the text stays", x.count(6), 2);
    due.is("30: the trace stays", x.trace(), 1);
    due.is("30: the image stays", x.back(1), 4);
    due.is("30: none in the other one", x.back(0), WindPost.STATE);
    x.hour();
    x.undo();
    due.is("30: undo() leaves the image", x.back(1), 4);
    x.clear();
    Due.tell(x, "i0;i1;");
    due.is("30: images are gone, read anew", x.back(1), WindPost.STATE);
  }

  private static void imagesRefused() {
    WindPost x = someHours();
    String before = Due.state(x);
    int[] wrong = {-1, 2, Integer.MAX_VALUE, Integer.MIN_VALUE};
    for (int image : wrong) {
      due.is("29: keep(" + image + ")", x.keep(image), BAD);
      due.is("30: back(" + image + ")", x.back(image), BAD);
    }
    due.is("30: back(0), none kept", x.back(0), WindPost.STATE);
    due.is("30: back(1), none kept", x.back(1), WindPost.STATE);
    due.alike("29, 30: nothing changes", Due.state(x), before);
  }
}
