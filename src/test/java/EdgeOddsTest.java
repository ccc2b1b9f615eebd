/** The edges that the document names of what goes round, tangles, knees, drifts, odds: promises 18, 19, 25 to 27. */
public final class EdgeOddsTest {
  private static final Due due = new Due("EdgeOddsTest");
  private static final int BAD = WindPost.BAD, NONE = WindPost.NONE, NO = WindPost.NO;

  public static void main(String[] args) {
    loopByWinds();
    loopFarRound();
    loopFromSomeHourOn();
    loopNone();
    loopRefused();
    tangledAtOnce();
    tangledUpBehindIt();
    tangledAtMost();
    tangledEachHour();
    tangledRefused();
    kneeByHours();
    kneeRefused();
    driftByAll();
    driftFarthest();
    driftRefused();
    oddsNextToIt();
    oddsTwoOff();
    oddsOfWhatIsOver();
    oddsInLeastTerms();
    oddsByTheirHours();
    oddsRefused();
    due.end();
  }

  private static WindPost up(String sea, int from, int to, int weight) {
    WindPost x = Due.of(sea);
    x.lets(from, to, weight);
    return x;
  }

  private static String winds(int n, String wind) { return n == 0 ? "" : "b" + (wind + " ").repeat(n) + ";"; }

  // "a number of times as many as WINDS are told; 1, if none is".
  private static void loopByWinds() {
    due.is("none told", up("g2 2;i0;i3;f6;", 0, 1, 1).loop(0), 1);
    due.is("none told, too heavy", up("g2 2;i0;i3;f1;", 0, 1, 5).loop(0), 1);
    for (int n = 1; n <= 12; n++) {
      due.is(n + " winds, calm", up("g2 2;i0;i3;" + winds(n, "4"), 0, 1, 1).loop(0), n);
      due.is(n + " winds, too heavy", up("g2 2;i0;i3;" + winds(n, "1"), 0, 1, 3).loop(0), n);
      due.is(n + " winds, all round each hour", up("g2 2;i0;i3;" + winds(n, "1") + "f3;", 0, 1, 1).loop(0), n);
      due.is(n + " winds, held up", up("g4 2;i0;i3;x1;" + winds(n, "1"), 0, 1, 1).loop(0), n);
      for (int wide = 2; wide <= 6; wide++) {
        int rounds = 1;
        while (rounds * n % wide != 0) rounds++;
        int last = 2 * wide - 1;
        due.is(n + " winds, " + wide + " wide", up("g" + wide + " 2;i0;i" + last + ";" + winds(n, "1") + "f2;", 0, 1, 1)
            .loop(0), rounds * n);
      }
    }
  }

  // "the fewest": fifteen rounds of twelve hours over fifteen cells, and each cell of a column of five.
  private static void loopFarRound() {
    String far = "g6 5;i0;i1;b1 2 4 4 4 4 4 4 4 4 4 4;f3;";
    WindPost x = up(far, 0, 1, 1);
    due.is("two cells east, two south a round", x.loop(0), 180);
    for (int n = 0; n < 13; n++) {
      x.hour();
      due.is("from each hour the same, " + n, x.loop(0), 180);
    }
    due.is("five rows, a cell a round", up("g6 5;i0;i1;b2 4 4 4 4 4 4 4 4 4 4 4;f2;", 0, 1, 1).loop(0), 60);
    due.is("six columns, a cell a round", up("g6 5;i0;i6;b4 4 4 4 4 4 4 4 4 4 4 3;f2;", 0, 1, 1).loop(0), 72);
    due.is("six columns, two cells a round", up("g6 5;i0;i6;b4 4 4 4 4 4 4 4 4 4 4 3;f3;", 0, 1, 1).loop(0), 36);
    due.is("six columns, three cells a round", up("g6 5;i0;i6;b4 4 4 4 4 4 4 4 4 4 4 3;f4;", 0, 1, 1).loop(0), 24);
  }

  // "from some HOUR on, again and again": not from the first one on.
  private static void loopFromSomeHourOn() {
    // Four cells south in as many rounds, then it is held up for good.
    WindPost x = up("g6 5;i0;i29;x24;b2 4 4 4 4 4 4 4 4 4 4 4;f2;", 0, 1, 1);
    due.is("held up behind some rounds", x.loop(0), 12);
    due.is("held up behind 48 hours", up("g6 5;i0;i29;x5;b4 4 4 4 4 4 4 4 4 4 4 1;f2;", 0, 1, 1).loop(0), 12);
    // North and west each round; held up on cell 22 in round 4, on cell 3 in rounds 24, 30, 36 and so on.
    String late = "g6 5;i19;i20;x27;b4 4 4 4 4 4 4 4 4 4 0 3;f2;";
    due.is("round behind 215 hours", up(late, 0, 1, 1).loop(0), 72);
    due.is("round behind 215 hours, gone through", loopByWhere(late), 72);
    // It goes east and south, and is held up by the hill now and then.
    due.is("held up, then round", up("g6 5;i0;i29;x4;b1 2;f2;", 0, 1, 1).loop(0), loopByWhere("g6 5;i0;i29;x4;b1 2;f2;"));
    due.is("forth and back", up("g4 2;i0;i2;b1 3;f2;", 0, 1, 1).loop(0), 2);
    due.is("on the same cell between, too", up("g4 2;i0;i2;b1 3 1 3;f2;", 0, 1, 1).loop(0), 4);
  }

  /** The fewest rounds behind which it is where it was, looked at hour by hour from hour 240 on. */
  private static int loopByWhere(String sea) {
    WindPost x = up(sea, 0, 1, 1);
    int round = Math.max(1, x.count(4));
    Due.hours(x, 240);
    if (x.now(2) == 0) return NONE;
    int start = x.letter(0, 3);
    for (int n = 1; n <= 30; n++) {
      Due.hours(x, round);
      if (x.letter(0, 3) == start) return n * round;
    }
    return 0;
  }

  // "it goes on UP for ever"; "NONE".
  private static void loopNone() {
    String sea = "g6 2;i0;i5;i2;b1;f2;";
    WindPost x = up(sea, 0, 1, 1);
    due.is("it will arrive", x.loop(0), NONE);
    x.net(2, 1);
    due.is("it will be caught", x.loop(0), NONE);
    Due.hours(x, 2);
    x.net(2, 0);
    due.is("it is caught", x.loop(0), NONE);
    x.undo();
    x.undo();
    x.undo();
    x.net(2, 0);
    Due.hours(x, 4);
    due.is("it has arrived", x.loop(0), NONE);
    due.is("it will arrive behind 288 hours", up("g6 5;i23;i29;b4 4 4 1 4 4 4 4 4 4 4 0;f2;", 0, 1, 1).loop(0), NONE);
    WindPost far = Due.of("g6 5;i23;i1;i29;b4 4 4 1 4 4 4 4 4 4 4 0;f2;");
    far.net(2, 1);
    far.lets(0, 1, 1);
    due.is("as where it arrives or is caught", far.loop(0), NONE);
  }

  private static void loopRefused() {
    due.edges("loop(l)", 0, 2, BAD, Due::rich, WindPost::loop);
    due.refused("loop(0), no letter", () -> Due.of("i0;i1;b1;"), x -> x.loop(0), BAD);
    WindPost x = Due.of("i0;i1;");
    for (int n = 0; n <= 5; n++) {
      for (int l = 0; l < 7; l++) due.is("loop " + l + " of " + n, x.loop(l), l < n ? 1 : BAD);
      x.lets(0, 1, 1);
    }
  }

  // "TANGLED: in how many HOURS (0 .. 400)": 0.
  private static void tangledAtOnce() {
    WindPost x = Due.of("g6 2;i0;i3;i11;b1;f4;");
    x.lets(0, 2, 1);
    x.lets(0, 2, 5);
    due.is("on one cell now", x.tangled(0, 1), 0);
    x.hour();
    due.is("on unlike cells now", x.tangled(0, 1), 1);
    x.hour();
    due.is("on one cell again", x.tangled(1, 0), 0);
  }

  // "both UP behind it, are first on one CELL".
  private static void tangledUpBehindIt() {
    // Isle 1 is where both come in the same hour.
    WindPost x = Due.of("g6 2;i0;i2;i4;b1;f6;");
    x.lets(0, 1, 4);
    x.lets(2, 0, 2);
    due.is("one of them arrives there", x.tangled(0, 1), NONE);
    WindPost both = Due.of("g6 2;i0;i2;i4;b1;f6;");
    both.lets(0, 1, 4);
    both.lets(0, 1, 4);
    due.is("up on one cell", both.tangled(0, 1), 0);
    both.hour();
    due.is("both arrived there", both.tangled(0, 1), NONE);
    WindPost net = Due.of("g6 2;i0;i2;i4;i9;b1;f6;");
    net.lets(0, 3, 4);
    net.lets(2, 3, 2);
    due.is("both up there", net.tangled(0, 1), 1);
    net.net(1, 1);
    due.is("both caught there", net.tangled(0, 1), NONE);
    net.hour();
    due.is("both are caught there", net.tangled(0, 1), NONE);
    // It is caught where the other one stands, that is too heavy and so not caught.
    WindPost one = Due.of("g6 2;i0;i2;i9;b1;f3;");
    one.lets(0, 2, 1);
    one.lets(1, 2, 5);
    due.is("it comes where the other one is", one.tangled(0, 1), 1);
    one.net(1, 1);
    due.is("it is caught where the other one is", one.tangled(0, 1), NONE);
    due.is("so is it told the other way round", one.tangled(1, 0), NONE);
  }

  private static final String TANGLE = "g6 5;i28;i26;i5;x19;x25;b4 4 4 4 2 4 3 4 4 4 4;f5;";

  private static WindPost tangle() {
    WindPost x = Due.of(TANGLE);
    x.lets(0, 2, 1);
    x.lets(1, 2, 4);
    return x;
  }

  // ".. 400)"; "NONE": 401 hours are beyond it, though they will be there.
  private static void tangledAtMost() {
    WindPost x = tangle();
    due.is("401 hours", x.tangled(0, 1), NONE);
    due.is("401 hours, the other way round", x.tangled(1, 0), NONE);
    for (int n = 400; n >= 1; n--) {
      x.hour();
      if (n > 395 || n < 5 || n % 50 == 0) due.is(n + " hours", x.tangled(0, 1), n);
    }
    x.hour();
    due.is("they are there", x.letter(0, 3), x.letter(1, 3));
    due.is("0 hours", x.tangled(1, 0), 0);
  }

  // A cell each round, the other one stays: one round for each cell between.
  private static void tangledEachHour() {
    for (int off = 1; off <= 5; off++) {
      for (int hour = 0; hour < 12; hour++) {
        StringBuilder sea = new StringBuilder("g6 2;i0;i" + off + ";i11;b");
        for (int k = 0; k < 12; k++) sea.append(k == hour ? "1 " : "4 ");
        WindPost x = Due.of(sea.append(";f2;").toString());
        x.lets(0, 2, 1);
        x.lets(1, 2, 2);
        due.is(off + " off, in hour " + hour, x.tangled(0, 1), 12 * (off - 1) + hour + 1);
      }
    }
  }

  // "two LETTERS (unlike)"; "BAD (alike, too)".
  private static void tangledRefused() {
    due.edges("tangled(a, 2)", 0, 1, BAD, Due::rich, (x, a) -> x.tangled(a, 2));
    due.edges("tangled(0, b)", 1, 2, BAD, Due::rich, (x, a) -> x.tangled(0, a));
    WindPost x = Due.of("i0;i1;");
    for (int n = 0; n <= 5; n++) {
      for (int a = -1; a < 7; a++) {
        for (int b = -1; b < 7; b++) {
          boolean there = a >= 0 && b >= 0 && a < n && b < n && a != b;
          due.is("tangled(" + a + ", " + b + ") of " + n, x.tangled(a, b), there ? 0 : BAD);
        }
      }
      x.lets(0, 1, 1);
    }
  }

  // "KNEE: .. each of the n (1 .. 12) HOURS from NOW on .. the HOUR d (1 .. 12) HOURS ahead of it": all of them.
  private static void kneeByHours() {
    int[] winds = {3, 1, 4, 1, 1, 0, 3, 3, 4, 1, 2, 1};
    for (int told = 0; told <= 12; told++) {
      StringBuilder sea = new StringBuilder(told == 0 ? "" : "b");
      for (int k = 0; k < told; k++) sea.append(winds[k]).append(k == told - 1 ? ";" : " ");
      WindPost x = Due.of(sea.toString());
      for (int hour = 0; hour < 3; hour++) {
        for (int d = 1; d <= 12; d++) {
          for (int n = 1; n <= 12; n++) {
            due.is("knee(" + d + ", " + n + ") of " + told + " from hour " + hour, x.knee(d, n),
                kneeOf(winds, told, hour, d, n));
          }
        }
        x.hour();
      }
    }
  }

  // "by what is left over, ahead of HOUR 0 as well".
  private static int kneeOf(int[] winds, int told, int hour, int d, int n) {
    int alike = 0;
    for (int j = 0; j < n; j++) {
      int ahead = hour + j - d;
      while (ahead < 0 && told > 0) ahead += told;
      if (told == 0 || winds[(hour + j) % told] == winds[ahead % told]) alike++;
    }
    return alike;
  }

  private static void kneeRefused() {
    due.edges("knee(d, 1)", 1, 12, BAD, Due::rich, (x, a) -> x.knee(a, 1));
    due.edges("knee(d, 12)", 1, 12, BAD, Due::rich, (x, a) -> x.knee(a, 12));
    due.edges("knee(1, n)", 1, 12, BAD, Due::rich, (x, a) -> x.knee(1, a));
    due.edges("knee(12, n)", 1, 12, BAD, Due::rich, (x, a) -> x.knee(12, a));
    due.edges("knee(d, 1), new", 1, 12, BAD, WindPost::new, (x, a) -> x.knee(a, 1));
    due.edges("knee(1, n), new", 1, 12, BAD, WindPost::new, (x, a) -> x.knee(1, a));
  }

  // "DRIFT: how many CELLS east less west, south less north all WINDS told would blow a LETTER of WEIGHT w".
  private static void driftByAll() {
    for (int force = 1; force <= 6; force++) {
      for (int weight = 1; weight <= 5; weight++) {
        int reach = force > weight ? force - weight : 0;
        String told = ", force " + force + ", weight " + weight;
        WindPost x = Due.of("b1 1 1 3 2 0 0 4;f" + force + ";");
        due.is("east less west" + told, x.drift(weight, 0), 2 * reach);
        due.is("south less north" + told, x.drift(weight, 1), -reach);
        x.turn(0, 3);
        x.turn(1, 3);
        due.is("turned, east less west" + told, x.drift(weight, 0), -2 * reach);
      }
    }
    due.is("none told, east", new WindPost().drift(1, 0), 0);
    due.is("none told, south", new WindPost().drift(1, 1), 0);
    due.is("without hills", Due.of("g4 2;i0;i3;x1;x4;b1 2;f6;").drift(1, 0), 5);
    due.is("without hills, south", Due.of("g4 2;i0;i3;x1;x4;b1 2;f6;").drift(1, 1), 5);
  }

  // Twelve winds by five cells; a drift below 0 is none of NO, BAD or NONE.
  private static void driftFarthest() {
    for (int wind = 0; wind <= 4; wind++) {
      WindPost x = Due.of(winds(12, "" + wind) + "f6;");
      int[] east = {0, 60, 0, -60, 0};
      int[] south = {-60, 0, 60, 0, 0};
      due.is("east, all by " + wind, x.drift(1, 0), east[wind]);
      due.is("south, all by " + wind, x.drift(1, 1), south[wind]);
      x.hour();
      due.is("all told, from any hour, by " + wind, x.drift(1, 0), east[wind]);
      due.is("by 5, by " + wind, x.drift(5, 0), east[wind] / 5);
    }
    for (int n = 1; n <= 9; n++) due.is(n + " west", Due.of(winds(n, "3") + "f2;").drift(1, 0), -n);
  }

  // "NO: BAD".
  private static void driftRefused() {
    for (int what = 0; what <= 1; what++) {
      int w = what;
      due.edges("drift(weight, " + what + ")", 1, 5, NO, Due::rich, (x, a) -> x.drift(a, w));
    }
    due.edges("drift(1, what)", 0, 1, NO, Due::rich, (x, a) -> x.drift(1, a));
    due.edges("drift(5, what)", 0, 1, NO, Due::rich, (x, a) -> x.drift(5, a));
    due.edges("drift(1, what), new", 0, 1, NO, WindPost::new, (x, a) -> x.drift(1, a));
    due.edges("drift(weight, 0), new", 1, 5, NO, WindPost::new, (x, a) -> x.drift(a, 0));
  }

  private static void fraction(String told, WindPost x, int p, int n, long upper, long lower) {
    long a = upper, b = lower;
    while (b != 0) {
      long left = a % b;
      a = b;
      b = left;
    }
    due.is(told + ", p " + p + ", n " + n + ", upper", x.odds(0, p, n, 0), upper / a);
    due.is(told + ", p " + p + ", n " + n + ", lower", x.odds(0, p, n, 1), lower / a);
  }

  private static long power(long base, int n) {
    long all = 1;
    for (int j = 0; j < n; j++) all *= base;
    return all;
  }

  // "ODDS by p (0 .. 10) of a LETTER, n (0 .. 6)": all but all of them calm.
  private static void oddsNextToIt() {
    WindPost x = up("g6 2;i0;i1;b1;f2;", 0, 1, 1);
    for (int p = 0; p <= 10; p++) {
      for (int n = 0; n <= 6; n++) fraction("next to it", x, p, n, power(10, n) - power(p, n), power(10, n));
    }
  }

  // All but those in which none, or just one, of the hours is not calm.
  private static void oddsTwoOff() {
    WindPost x = up("g6 2;i0;i2;b1;f2;", 0, 1, 1);
    for (int p = 0; p <= 10; p++) {
      for (int n = 0; n <= 6; n++) {
        long one = n == 0 ? 0 : n * (10 - p) * power(p, n - 1);
        fraction("two off", x, p, n, power(10, n) - power(p, n) - one, power(10, n));
      }
    }
  }

  private static void oddsOfWhatIsOver() {
    WindPost arrived = up("g6 2;i0;i1;b1;f2;", 0, 1, 1);
    arrived.hour();
    WindPost heavy = up("g6 2;i0;i1;b1;f2;", 0, 1, 2);
    WindPost caught = Due.of("g6 2;i0;i2;i1;b1;f2;");
    caught.net(2, 1);
    caught.lets(0, 1, 1);
    WindPost will = Due.of("g6 2;i0;i2;i1;b1;f2;");
    will.net(2, 1);
    will.lets(0, 1, 1);
    caught.hour();
    for (int p = 0; p <= 10; p++) {
      for (int n = 0; n <= 6; n++) {
        fraction("it has arrived", arrived, p, n, 1, 1);
        fraction("too heavy", heavy, p, n, 0, 1);
        fraction("it is caught", caught, p, n, 0, 1);
        fraction("it will be caught", will, p, n, 0, 1);
      }
    }
  }

  // "a fraction": "in least terms"; none is 0 of 1, all is 1 of 1.
  private static void oddsInLeastTerms() {
    WindPost x = up("g6 2;i0;i1;b4 4 4 4 4 1;f2;", 0, 1, 1);
    due.is("none, upper", x.odds(0, 5, 5, 0), 0);
    due.is("none, lower", x.odds(0, 5, 5, 1), 1);
    due.is("all, upper", x.odds(0, 0, 6, 0), 1);
    due.is("all, lower", x.odds(0, 0, 6, 1), 1);
    due.is("none by calms, upper", x.odds(0, 10, 6, 0), 0);
    due.is("none by calms, lower", x.odds(0, 10, 6, 1), 1);
    int[] upper = {1, 9, 4, 7, 3, 1, 2, 3, 1, 1, 0};
    int[] lower = {1, 10, 5, 10, 5, 2, 5, 10, 5, 10, 1};
    for (int p = 0; p <= 10; p++) {
      due.is("one hour counts, upper, p " + p, x.odds(0, p, 6, 0), upper[p]);
      due.is("one hour counts, lower, p " + p, x.odds(0, p, 6, 1), lower[p]);
    }
    WindPost six = up("g6 5;i0;i24;b1 1 1 1 1 0;f2;", 0, 1, 1);
    due.is("five calms ahead of the north wind", six.odds(0, 9, 6, 0), 59049);
    due.is("one calm fewer is too few", six.odds(0, 0, 6, 0), 0);
    WindPost all = up("g6 5;i0;i29;b1 1 1 1 1 0;f2;", 0, 1, 1);
    due.is("all six, upper", all.odds(0, 9, 6, 0), 1);
    due.is("all six, lower", all.odds(0, 9, 6, 1), 1000000);
    due.is("all six of a half, lower", all.odds(0, 5, 6, 1), 64);
    due.is("all six by 3 of 10, upper", all.odds(0, 3, 6, 0), 117649);
    due.is("five of them are too few", all.odds(0, 3, 5, 0), 0);
  }

  // "each of the next n HOURS is calm instead .., for itself": the hours behind a calm one have their own winds.
  private static void oddsByTheirHours() {
    WindPost x = up("g6 2;i0;i2;b1 3 1;f2;", 0, 1, 1);
    fraction("a calm between", x, 3, 3, 7 * 3 * 7, 1000);
    fraction("no calm, three hours", x, 0, 3, 0, 1);
    fraction("no calm, four hours", x, 0, 4, 1, 1);
    x.hour();
    fraction("an hour on", x, 3, 2, 3 * 7, 100);
    // At a net, but calm: it is not caught; blown, it goes away.
    WindPost net = up("g6 2;i0;i1;b1;f2;", 0, 1, 1);
    net.net(0, 1);
    fraction("calm at a net", net, 4, 6, power(10, 6) - power(4, 6), power(10, 6));
  }

  private static void oddsRefused() {
    due.edges("odds(l, 5, 3, 0)", 0, 2, BAD, Due::rich, (x, a) -> x.odds(a, 5, 3, 0));
    due.edges("odds(0, p, 3, 0)", 0, 10, BAD, Due::rich, (x, a) -> x.odds(0, a, 3, 0));
    due.edges("odds(0, p, 0, 1)", 0, 10, BAD, Due::rich, (x, a) -> x.odds(0, a, 0, 1));
    due.edges("odds(0, 5, n, 0)", 0, 6, BAD, Due::rich, (x, a) -> x.odds(0, 5, a, 0));
    due.edges("odds(0, 10, n, 1)", 0, 6, BAD, Due::rich, (x, a) -> x.odds(0, 10, a, 1));
    due.edges("odds(0, 5, 3, what)", 0, 1, BAD, Due::rich, (x, a) -> x.odds(0, 5, 3, a));
    due.edges("odds(2, 0, 0, what)", 0, 1, BAD, Due::rich, (x, a) -> x.odds(2, 0, 0, a));
    due.refused("odds, no letter", () -> Due.of("i0;i1;b1;"), x -> x.odds(0, 0, 0, 0), BAD);
  }
}
