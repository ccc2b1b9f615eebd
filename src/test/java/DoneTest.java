/** Promises 10 to 14: letters let up, hours gone by, nets spread, winds turned, all of it undone. */
public final class DoneTest {
  private static final Due due = new Due("DoneTest");
  private static final int LEAST = Integer.MIN_VALUE, MOST = Integer.MAX_VALUE;

  public static void main(String[] args) {
    lets();
    letsRefused();
    hourBlows();
    hourRoundTheSea();
    hourAheadOfHills();
    hourAtNets();
    hourNotBlown();
    hourOfFive();
    hourTheLast();
    net();
    turn();
    undo();
    undoKnowsTen();
    refusedIsNotUndone();
    due.end();
  }

  private static void lets() {
    WindPost x = Due.of("g3 2;i5;i0;i2;b1;");
    for (int n = 0; n < 5; n++) due.is("10: lets, " + n, x.lets(0, 1 + n % 2, n + 1), n);
    due.is("10: FULL", x.lets(0, 1, 1), WindPost.FULL);
    due.is("10: BAD ahead of FULL", x.lets(0, 0, 1), WindPost.BAD);
    due.is("10: five letters", x.now(1), 5);
    due.is("10: all are up", x.now(2), 31);
    due.is("10: its cell", x.letter(4, 3), 5);
    due.is("10: its blots", x.letter(4, 4), 1);
    due.is("10: its weight", x.letter(4, 0), 5);
    due.is("10: five may be undone", x.now(4), 5);
  }

  private static void letsRefused() {
    WindPost x = Due.of("g3 2;i5;i0;b1;");
    String before = Due.state(x);
    int[][] wrong = {{0, 0, 1}, {1, 1, 1}, {0, 2, 1}, {2, 0, 1}, {-1, 0, 1}, {0, -1, 1}, {0, 1, 0},
        {0, 1, 6}, {0, 1, -1}, {LEAST, 0, 1}, {0, MOST, 1}, {0, 1, MOST}};
    for (int[] w : wrong) {
      due.is("10: lets(" + w[0] + ", " + w[1] + ", " + w[2] + ")", x.lets(w[0], w[1], w[2]), WindPost.BAD);
    }
    due.alike("10: nothing changes", Due.state(x), before);
  }

  private static void hourBlows() {
    // Isles 0, 1, 2, 3 on 0, 2, 4, 7; a hill on 8; east, east, south, calm.
    WindPost x = Due.of("g5 2;i0;i2;i4;i7;x8;b1 1 2 4;f3;");
    x.lets(0, 2, 2);
    x.lets(0, 1, 1);
    x.lets(3, 0, 2);
    x.lets(0, 2, 3);
    int[] arrived = {1, 0, 0, 0, 0, 0, 0, 0, 0, 1, 0, 0, 0, 0, 0, 0, 0, 1, 0};
    int[] first = {1, 2, 7, 7, 7, 7, 2, 2, 3, 4, 4, 4, 4, 4, 4, 4, 4, 4, 4};
    int[] third = {7, 7, 2, 2, 3, 4, 9, 9, 5, 6, 1, 1, 2, 3, 3, 3, 4, 0, 0};
    for (int n = 0; n < arrived.length; n++) {
      due.is("11: hour " + n, x.hour(), arrived[n]);
      due.is("11: letter 0 behind hour " + n, x.letter(0, 3), first[n]);
      due.is("11: letter 1 behind hour " + n, x.letter(1, 3), 2);
      due.is("11: letter 2 behind hour " + n, x.letter(2, 3), third[n]);
      due.is("11: letter 3 behind hour " + n, x.letter(3, 3), 0);
    }
    due.is("11: the blots of letter 0", x.letter(0, 4), 15);
    due.is("11: the blots of letter 1", x.letter(1, 4), 3);
    due.is("11: the blots of letter 2", x.letter(2, 4), 15);
    due.is("11: the blots of letter 3", x.letter(3, 4), 1);
    due.is("11: who is up", x.now(2), 8);
    due.is("11: the hour", x.now(0), 19);
    due.is("11: two at once", twoAtOnce(), 2);
  }

  private static int twoAtOnce() {
    WindPost x = Due.of("g5 2;i0;i1;b1;");
    x.lets(0, 1, 2);
    x.lets(0, 1, 2);
    return x.hour();
  }

  private static void hourRoundTheSea() {
    int[] winds = {0, 1, 2, 3};
    int[] fromCorner = {8, 1, 4, 3};
    int[] fromLast = {7, 8, 3, 10};
    for (int w : winds) {
      WindPost x = Due.of("g4 3;i0;i11;i5;b" + w + ";f2;");
      x.lets(0, 2, 1);
      x.lets(1, 2, 1);
      x.hour();
      due.is("11: from the first cell, wind " + w, x.letter(0, 3), fromCorner[w]);
      due.is("11: from the last cell, wind " + w, x.letter(1, 3), fromLast[w]);
    }
    WindPost x = Due.of("g2 2;i0;i3;b1;f6;");
    x.lets(0, 1, 1);
    x.hour();
    due.is("11: five cells in two", x.letter(0, 3), 1);
    WindPost north = Due.of("g4 3;i4;i5;b0;f2;");
    north.lets(0, 1, 1);
    north.hour();
    due.is("11: north to the first cell", north.letter(0, 3), 0);
  }

  private static void hourAheadOfHills() {
    WindPost x = Due.of("g6 2;i0;i11;x3;b1;f6;");
    x.lets(0, 1, 1);
    x.hour();
    due.is("11: ahead of the hill", x.letter(0, 3), 2);
    x.hour();
    due.is("11: it stays there", x.letter(0, 3), 2);
    x.turn(0, 2);
    x.hour();
    due.is("11: another wind", x.letter(0, 3), 8);
    WindPost y = Due.of("g6 2;i0;i2;i11;x3;b1;f6;");
    y.lets(0, 2, 1);
    y.hour();
    due.is("11: held up at an isle, its blot", y.letter(0, 4), 3);
    y.lets(0, 1, 1);
    due.is("11: held up at the isle it goes to", y.hour(), 1);
  }

  private static void hourAtNets() {
    WindPost x = Due.of("g4 2;i0;i1;i3;b1;f2;");
    x.net(1, 1);
    x.lets(0, 2, 1);
    due.is("11: caught, none arrived", x.hour(), 0);
    due.is("11: caught", x.letter(0, 5), 2);
    due.is("11: no blot of the net's isle", x.letter(0, 4), 1);
    x.net(1, 0);
    x.hour();
    due.is("11: caught for good", x.letter(0, 5), 2);
    due.is("11: caught, its cell", x.letter(0, 3), 1);
    x.net(2, 1);
    x.lets(0, 2, 1);
    Due.hours(x, 2);
    due.is("11: the net of the isle it goes to", x.hour(), 1);
    due.is("11: arrived, blot and all", x.letter(1, 4), 7);
    WindPost y = Due.of("g4 2;i0;i1;i4;b1;f3;");
    y.net(0, 1);
    y.net(1, 1);
    y.lets(0, 2, 1);
    y.hour();
    due.is("11: over a net", y.letter(0, 5), 0);
    y.hour();
    due.is("11: back at its own isle's net", y.letter(0, 5), 2);
  }

  private static void hourNotBlown() {
    WindPost calm = Due.of("g4 2;i0;i3;b4;");
    WindPost heavy = Due.of("g4 2;i0;i3;b1;f1;");
    WindPost held = Due.of("g4 2;i0;i3;x1;b1;f6;");
    WindPost none = Due.of("g4 2;i0;i3;");
    WindPost[] all = {calm, heavy, held, none};
    for (int n = 0; n < all.length; n++) {
      WindPost x = all[n];
      x.net(0, 1);
      x.lets(0, 1, 1);
      due.is("11: not blown, " + n, x.hour(), 0);
      due.is("11: not blown, not caught, " + n, x.letter(0, 5), 0);
      due.is("11: not blown, its cell, " + n, x.letter(0, 3), 0);
      due.is("11: the hour goes by, " + n, x.now(0), 1);
    }
    WindPost round = Due.of("g2 2;i0;i3;b1;f3;");
    round.net(0, 1);
    round.lets(0, 1, 1);
    round.hour();
    due.is("11: blown round, and caught where it was", round.letter(0, 5), 2);
  }

  private static void hourOfFive() {
    WindPost x = Due.of("g6 2;i0;i1;i2;b1;f6;");
    for (int weight = 1; weight <= 5; weight++) x.lets(0, 2 - weight % 2, weight);
    due.is("11: five letters, two arrive", x.hour(), 2);
    int[] cells = {5, 4, 3, 2, 1};
    for (int l = 0; l < 5; l++) {
      due.is("11: five letters, the cell of " + l, x.letter(l, 3), cells[l]);
      due.is("11: five letters, how is " + l, x.letter(l, 5), l >= 3 ? 1 : 0);
    }
  }

  /** Behind 512 calls nothing is promised, but this edge is named, and no run of 512 comes to it. */
  private static void hourTheLast() {
    WindPost x = Due.of("g2 2;i0;i3;b1 2 4;f2;");
    x.lets(0, 1, 5);
    Due.hours(x, 9998);
    due.is("11: to hour 9999", x.hour(), 0);
    due.is("11: hour 9999", x.now(0), 9999);
    String before = Due.state(x);
    due.is("11: it is the last", x.hour(), WindPost.STATE);
    due.alike("11: nothing changes", Due.state(x), before);
    due.is("11: it can be undone", x.undo(), 9);
  }

  private static void net() {
    WindPost x = Due.of("g4 2;i0;i3;b1;");
    due.is("12: net(1, 1)", x.net(1, 1), 0);
    due.is("12: net(1, 1) again", x.net(1, 1), 1);
    due.is("12: net(0, 1)", x.net(0, 1), 0);
    due.is("12: both", x.now(3), 3);
    due.is("12: net(1, 0)", x.net(1, 0), 1);
    due.is("12: net(1, 0) again", x.net(1, 0), 0);
    due.is("12: the other one stays", x.now(3), 1);
    due.is("12: each may be undone", x.now(4), 5);
    String before = Due.state(x);
    int[][] wrong = {{2, 1}, {-1, 1}, {0, 2}, {0, -1}, {MOST, 0}, {LEAST, 1}, {0, MOST}};
    for (int[] w : wrong) due.is("12: net(" + w[0] + ", " + w[1] + ")", x.net(w[0], w[1]), WindPost.BAD);
    due.alike("12: nothing changes", Due.state(x), before);
  }

  private static void turn() {
    WindPost x = Due.of("g4 2;i0;i3;b1 2 0;");
    x.hour();
    due.is("13: turn(0, 4)", x.turn(0, 4), 1);
    due.is("13: turn(0, 3)", x.turn(0, 3), 4);
    due.is("13: turn(2, 1)", x.turn(2, 1), 0);
    int[] winds = {2, 1, 3, 2};
    for (int k = 0; k < 4; k++) due.is("13: wind(" + k + ")", x.wind(k), winds[k]);
    due.is("13: each may be undone", x.now(4), 4);
    String before = Due.state(x);
    int[][] wrong = {{3, 0}, {-1, 0}, {0, 5}, {0, -1}, {MOST, 0}, {LEAST, 0}, {0, LEAST}};
    for (int[] w : wrong) due.is("13: turn(" + w[0] + ", " + w[1] + ")", x.turn(w[0], w[1]), WindPost.BAD);
    due.alike("13: nothing changes", Due.state(x), before);
    due.is("13: none told", Due.of("i0;i3;").turn(0, 0), WindPost.BAD);
  }

  private static void undo() {
    WindPost x = Due.of("g4 2;i0;i1;i3;b1 2;f2;");
    String[] states = new String[5];
    String[] lookBare = new String[5];
    for (int n = 0; n < 5; n++) {
      states[n] = now(x);
      if (n == 0) x.lets(0, 2, 1);
      if (n == 1) x.net(1, 1);
      if (n == 2) x.turn(1, 0);
      if (n == 3) x.hour();
      lookBare[n] = now(x);
    }
    due.is("14: caught ahead of undo()", x.letter(0, 5), 2);
    for (int n = 3; n >= 0; n--) {
      due.is("14: undo(), " + n, x.undo(), n);
      due.alike("14: as it was, " + n, now(x), states[n]);
    }
    due.is("14: none", x.undo(), WindPost.STATE);
    due.alike("14: nothing changes", now(x), states[0]);
    due.alike("14: the last of all was a look", lookBare[4], lookBare[3]);
    due.is("14: lets() anew", x.lets(2, 0, 3), 0);
    due.is("14: it is the new one", x.letter(0, 1), 2);
    due.is("14: its weight", x.letter(0, 0), 3);
    x.keep(0);
    x.undo();
    x.lets(1, 2, 4);
    x.back(0);
    due.is("14: the first one's weight again", x.letter(0, 0), 3);
    due.is("14: where it was from", x.letter(0, 1), 2);
    due.is("14: where it goes", x.letter(0, 2), 0);
  }

  private static String now(WindPost x) {
    StringBuilder all = new StringBuilder();
    for (int what = 0; what < 4; what++) all.append(x.now(what)).append(' ');
    for (int k = 0; k < 2; k++) all.append(x.wind(k)).append(' ');
    for (int l = 0; l < x.now(1); l++) {
      for (int what = 0; what < 6; what++) all.append(x.letter(l, what)).append(' ');
    }
    return all.toString();
  }

  private static void undoKnowsTen() {
    WindPost x = Due.of("g4 2;i0;i1;b1;");
    Due.hours(x, 13);
    due.is("14: ten are known", x.now(4), 10);
    for (int n = 9; n >= 0; n--) due.is("14: undo() of ten, " + n, x.undo(), n);
    due.is("14: the older ones are lost", x.undo(), WindPost.STATE);
    due.is("14: the hour then", x.now(0), 3);
    Due.hours(x, 4);
    x.undo();
    x.net(0, 1);
    Due.hours(x, 9);
    due.is("14: ten again", x.now(4), 10);
    for (int n = 9; n >= 0; n--) x.undo();
    due.is("14: the net is undone", x.now(3), 0);
    due.is("14: the hour ahead of it", x.now(0), 6);
  }

  private static void refusedIsNotUndone() {
    WindPost x = Due.of("g4 2;i0;i1;b1;");
    x.net(0, 1);
    x.lets(0, 0, 1);
    x.net(2, 1);
    x.turn(1, 1);
    x.where(0, 1);
    x.keep(0);
    due.is("14: just the net", x.undo(), 0);
    due.is("14: it is gone", x.now(3), 0);
    for (int n = 0; n < 5; n++) x.lets(0, 1, 5);
    x.lets(0, 1, 5);
    due.is("14: FULL is not undone", x.undo(), 4);
    due.is("14: four letters", x.now(1), 4);
  }
}
