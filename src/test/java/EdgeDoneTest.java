/** The edges that the document names of what is done: terms 2, promises 10 to 14. */
public final class EdgeDoneTest {
  private static final Due due = new Due("EdgeDoneTest");
  private static final int BAD = WindPost.BAD, STATE = WindPost.STATE, FULL = WindPost.FULL;
  private static final int UP = 0, ARRIVED = 1, CAUGHT = 2;

  public static void main(String[] args) {
    hourAtFirst();
    hourAtMost();
    fiveLetters();
    weights();
    anotherIsle();
    letterAtFirst();
    forceLessWeight();
    aheadOfAHill();
    hillRoundTheSea();
    staysForThatHour();
    whereItIsThen();
    arrivedBlotAndAll();
    arrivedIsOver();
    caughtForGood();
    caughtAtItsOwn();
    anyOtherIsle();
    notBlownAtAll();
    blownAllRound();
    howManyArrived();
    netSpread();
    netOfEachIsle();
    windTurned();
    undoneByKind();
    undoneByEach();
    tenAreKnown();
    refusedIsNotKnown();
    noneToUndo();
    due.end();
  }

  // "THE HOUR (0 at first ..".
  private static void hourAtFirst() {
    WindPost x = new WindPost();
    due.is("the hour at first", x.now(0), 0);
    for (int n = 1; n <= 30; n++) {
      x.hour();
      due.is("the hour behind " + n, x.now(0), n);
    }
  }

  /** No run of 512 calls comes to it; yet it is an edge that is named, and all is promised up to there. */
  // ".. 9999 at most)"; "STATE: it is HOUR 9999".
  private static void hourAtMost() {
    WindPost x = lateHour(9998);
    due.is("at hour 9998", x.now(0), 9998);
    due.is("one more is taken", x.hour(), 0);
    due.is("at hour 9999", x.now(0), 9999);
    due.is("what is left over there", x.wind(0), 4);
    due.is("and behind there", x.wind(1), 1);
    due.refused("the hour behind 9999", () -> lateHour(9999), WindPost::hour, STATE);
    due.is("undone at 9999", x.undo(), 9);
    due.is("9998 again", x.now(0), 9998);
    due.is("and 9999 again", x.hour(), 0);
    due.is("and no more", x.hour(), STATE);
    due.is("it is still 9999", x.now(0), 9999);
  }

  private static WindPost lateHour(int hours) {
    WindPost x = Due.of("g2 2;i0;i3;b1 2 4 4;f2;");
    x.lets(0, 1, 5);
    Due.hours(x, hours);
    return x;
  }

  private static WindPost letters(int n) {
    WindPost x = Due.of("g6 2;i0;i1;i2;b1;f6;");
    for (int l = 0; l < n; l++) x.lets(0, 1, 1 + l);
    return x;
  }

  // "LETTERS 0 .. (5 at most)"; "LET UP: its number .. FULL".
  private static void fiveLetters() {
    WindPost x = letters(0);
    for (int n = 0; n < 5; n++) due.is("letter " + n, x.lets(1, 2, 5 - n), n);
    due.is("five", x.now(1), 5);
    due.is("all five up", x.now(2), 31);
    for (int l = 0; l < 5; l++) due.is("its weight, " + l, x.letter(l, 0), 5 - l);
    due.refused("a sixth", () -> letters(5), y -> y.lets(0, 1, 1), FULL);
    due.refused("a sixth, from another isle", () -> letters(5), y -> y.lets(2, 0, 5), FULL);
    due.refused("a sixth, BAD ahead of FULL: alike", () -> letters(5), y -> y.lets(0, 0, 1), BAD);
    due.refused("a sixth, BAD ahead of FULL: weight", () -> letters(5), y -> y.lets(0, 1, 6), BAD);
    due.refused("a sixth, BAD ahead of FULL: isle", () -> letters(5), y -> y.lets(0, 3, 1), BAD);
    x.undo();
    due.is("room behind undo()", x.lets(0, 1, 3), 4);
    due.is("and full again", x.lets(0, 1, 3), FULL);
    Due.hours(x, 6);
    due.is("arrived ones are letters too", x.lets(0, 1, 3), FULL);
  }

  // "WEIGHT (1 .. 5)".
  private static void weights() {
    due.edges("lets, weight", 1, 5, BAD, Due::rich, (x, a) -> x.lets(0, 1, a));
    for (int weight = -1; weight <= 7; weight++) {
      WindPost x = letters(0);
      boolean taken = weight >= 1 && weight <= 5;
      due.is("weight " + weight, x.lets(0, 1, weight), taken ? 0 : BAD);
      due.is("letters, weight " + weight, x.now(1), taken ? 1 : 0);
      due.is("its weight, " + weight, x.letter(0, 0), taken ? weight : BAD);
    }
  }

  // "FROM an ISLE, TO another one"; "BAD (alike, too)": each pair, by none, one, two and six isles.
  private static void anotherIsle() {
    String[] seas = {"b1;", "i0;", "i0;i1;", "i0;i1;i2;i3;i4;i5;"};
    int[] isles = {0, 1, 2, 6};
    for (int n = 0; n < seas.length; n++) {
      String sea = seas[n];
      for (int from = -1; from <= 7; from++) {
        for (int to = -1; to <= 7; to++) {
          boolean way = from >= 0 && to >= 0 && from < isles[n] && to < isles[n] && from != to;
          int a = from, b = to;
          String told = isles[n] + " isles, lets(" + from + ", " + to + ", 1)";
          if (!way) due.refused(told, () -> Due.of(sea), x -> x.lets(a, b, 1), BAD);
          else due.is(told, Due.of(sea).lets(from, to, 1), 0);
        }
      }
    }
    for (int far : new int[] {Integer.MIN_VALUE, Integer.MAX_VALUE, 32, 64, -32}) {
      due.refused("lets from " + far, Due::rich, x -> x.lets(far, 1, 1), BAD);
      due.refused("lets to " + far, Due::rich, x -> x.lets(0, far, 1), BAD);
    }
  }

  // "a CELL (at first that of FROM), BLOTS (.. FROM at first); UP".
  private static void letterAtFirst() {
    int[] cells = {9, 0, 23, 4, 17, 29};
    for (int from = 0; from < 6; from++) {
      WindPost x = Due.of("g6 5;i9;i0;i23;i4;i17;i29;b1;");
      x.net(from, 1);
      int to = (from + 1) % 6;
      x.lets(from, to, 2);
      int[] first = {2, from, to, cells[from], 1 << from, UP};
      for (int what = 0; what < 6; what++) due.is("at first, from " + from + ", " + what, x.letter(0, what), first[what]);
      due.is("none has arrived at first", x.now(2), 1);
    }
  }

  // "FORCE less WEIGHT CELLS (none, if that is below 1)": each of both.
  private static void forceLessWeight() {
    for (int force = 1; force <= 6; force++) {
      WindPost x = Due.of("g6 2;i0;i11;b1;f" + force + ";");
      for (int weight = 1; weight <= 5; weight++) x.lets(0, 1, weight);
      x.hour();
      for (int weight = 1; weight <= 5; weight++) {
        int cell = force > weight ? force - weight : 0;
        due.is("force " + force + ", weight " + weight, x.letter(weight - 1, 3), cell);
      }
    }
  }

  // "ahead of a HILL it stays": as far off as can be, each way; a hill behind all that it goes holds nothing.
  private static void aheadOfAHill() {
    int[] steps = {-6, 1, 6, -1};
    int[] starts = {24, 0, 0, 5};
    for (int wind = 0; wind < 4; wind++) {
      int most = wind % 2 == 0 ? 4 : 5;
      for (int off = 1; off <= most; off++) {
        int hill = starts[wind] + off * steps[wind];
        for (int reach = 1; reach <= 5; reach++) {
          WindPost x = Due.of("g6 5;i" + starts[wind] + ";i15;x" + hill + ";b" + wind + ";f6;");
          x.lets(0, 1, 6 - reach);
          x.hour();
          int goes = reach < off ? reach : off - 1;
          due.is("wind " + wind + ", a hill " + off + " off, " + reach + " cells", x.letter(0, 3),
              starts[wind] + goes * steps[wind]);
        }
      }
    }
  }

  // The same, with the hill where it comes in at the other side.
  private static void hillRoundTheSea() {
    int[] starts = {2, 17, 26, 12};
    int[] hills = {26, 12, 2, 17};
    for (int wind = 0; wind < 4; wind++) {
      WindPost x = Due.of("g6 5;i" + starts[wind] + ";i9;x" + hills[wind] + ";b" + wind + ";f6;");
      x.lets(0, 1, 1);
      x.hour();
      due.is("a hill at the other side, wind " + wind, x.letter(0, 3), starts[wind]);
    }
    WindPost x = Due.of("g6 2;i4;i11;x2;b1;f6;");
    x.lets(0, 1, 1);
    x.hour();
    due.is("a hill behind the side", x.letter(0, 3), 1);
  }

  // ".. for that HOUR": the next hour it goes on, if the wind is another one.
  private static void staysForThatHour() {
    WindPost x = Due.of("g6 5;i0;i29;x2;b1 1 2 1 3;f4;");
    x.lets(0, 1, 1);
    int[] cells = {1, 1, 19, 22, 19, 22, 19, 7, 10};
    for (int n = 0; n < cells.length; n++) {
      x.hour();
      due.is("held up, hour " + n, x.letter(0, 3), cells[n]);
    }
  }

  // "If it is at an ISLE then": what it goes over is nothing to it.
  private static void whereItIsThen() {
    WindPost x = Due.of("g6 2;i0;i1;i2;i4;b1;f4;");
    x.net(1, 1);
    x.lets(0, 2, 1);
    due.is("over the isle it goes to", x.hour(), 0);
    due.is("not arrived there", x.letter(0, 5), UP);
    due.is("not caught over a net", x.letter(0, 3), 3);
    due.is("no blot over an isle", x.letter(0, 4), 1);
    x.hour();
    due.is("round, at its own", x.letter(0, 3), 0);
    due.is("no other blot", x.letter(0, 4), 1);
    WindPost y = Due.of("g6 2;i0;i1;i3;b1;f4;");
    y.lets(0, 2, 1);
    due.is("at the third cell just then", y.hour(), 1);
    due.is("no blot between", y.letter(0, 4), 5);
  }

  // "at the one it goes TO it has ARRIVED (BLOT and all)"; ".. a NET (but that)".
  private static void arrivedBlotAndAll() {
    for (int net = 0; net <= 1; net++) {
      WindPost x = Due.of("g6 2;i0;i1;b1;f2;");
      x.net(1, net);
      x.lets(0, 1, 1);
      due.is("it arrives, net " + net, x.hour(), 1);
      due.is("arrived, net " + net, x.letter(0, 5), ARRIVED);
      due.is("the blot of where it goes, net " + net, x.letter(0, 4), 3);
      due.is("its cell, net " + net, x.letter(0, 3), 1);
      due.is("up no more, net " + net, x.now(2), 0);
    }
  }

  // What has arrived is blown no more, and is caught by no net.
  private static void arrivedIsOver() {
    WindPost x = Due.of("g6 2;i0;i1;i2;b1;f2;");
    x.lets(0, 1, 1);
    x.hour();
    x.net(1, 1);
    x.net(2, 1);
    for (int n = 0; n < 7; n++) {
      due.is("it arrives once, hour " + n, x.hour(), 0);
      due.is("it is there, hour " + n, x.letter(0, 3), 1);
      due.is("it has arrived, hour " + n, x.letter(0, 5), ARRIVED);
      due.is("no blot more, hour " + n, x.letter(0, 4), 3);
    }
  }

  // "at one with a NET (but that) it is CAUGHT for good".
  private static void caughtForGood() {
    WindPost x = Due.of("g6 2;i0;i1;i2;b1;f2;");
    x.net(1, 1);
    x.lets(0, 2, 1);
    due.is("none arrives", x.hour(), 0);
    due.is("caught", x.letter(0, 5), CAUGHT);
    due.is("at the net", x.letter(0, 3), 1);
    due.is("no blot of it", x.letter(0, 4), 1);
    due.is("up no more", x.now(2), 0);
    x.net(1, 0);
    for (int n = 0; n < 8; n++) {
      due.is("none arrives, hour " + n, x.hour(), 0);
      due.is("for good, hour " + n, x.letter(0, 5), CAUGHT);
      due.is("its cell for good, hour " + n, x.letter(0, 3), 1);
    }
  }

  // The net of the isle that it is from is one as any other, when it comes round.
  private static void caughtAtItsOwn() {
    WindPost x = Due.of("g3 2;i0;i5;b1;f2;");
    x.net(0, 1);
    x.lets(0, 1, 1);
    x.hour();
    x.hour();
    due.is("on its way round", x.letter(0, 5), UP);
    x.hour();
    due.is("caught where it is from", x.letter(0, 5), CAUGHT);
    due.is("the blot it had stays", x.letter(0, 4), 1);
  }

  // "at any other it gets that one's BLOT, and goes on".
  private static void anyOtherIsle() {
    WindPost x = Due.of("g6 2;i0;i5;i4;i3;i2;i1;b1;f2;");
    x.lets(0, 1, 1);
    int[] blots = {33, 49, 57, 61, 63};
    for (int n = 0; n < 5; n++) {
      due.is("arrived in hour " + n, x.hour(), n == 4 ? 1 : 0);
      due.is("blots behind hour " + n, x.letter(0, 4), blots[n]);
      due.is("how it is behind hour " + n, x.letter(0, 5), n == 4 ? ARRIVED : UP);
    }
    WindPost y = Due.of("g2 2;i0;i1;i3;b1;f2;");
    y.lets(0, 2, 1);
    for (int n = 0; n < 6; n++) {
      y.hour();
      due.is("a blot that it has stays one, hour " + n, y.letter(0, 4), 3);
    }
  }

  // "(A letter that was not blown at all gets no BLOT, is not CAUGHT.)"; "(none, if that is below 1)".
  private static void notBlownAtAll() {
    String[] seas = {"g4 2;i0;i3;b4;f6;", "g4 2;i0;i3;f6;", "g4 2;i0;i3;b1;f1;", "g4 2;i0;i3;x1;b1;f6;"};
    for (String sea : seas) {
      for (int weight = 1; weight <= 5; weight++) {
        WindPost x = Due.of(sea);
        x.net(0, 1);
        x.lets(0, 1, weight);
        String told = sea + " weight " + weight;
        due.is("none arrives: " + told, x.hour(), 0);
        due.is("not caught: " + told, x.letter(0, 5), UP);
        due.is("its cell: " + told, x.letter(0, 3), 0);
        due.is("its blots: " + told, x.letter(0, 4), 1);
        due.is("the hour goes by: " + told, x.now(0), 1);
        due.is("it may be undone: " + told, x.undo(), 2);
      }
    }
    for (int force = 1; force <= 5; force++) {
      WindPost x = Due.of("g4 2;i0;i3;b1;f" + force + ";");
      x.net(0, 1);
      x.lets(0, 1, force);
      x.hour();
      due.is("as heavy as the force, " + force, x.letter(0, 5), UP);
      due.is("as heavy as the force, its cell, " + force, x.letter(0, 3), 0);
    }
  }

  // It was blown, though it is on the cell it was on.
  private static void blownAllRound() {
    WindPost x = Due.of("g2 2;i0;i3;b1;f3;");
    x.lets(0, 1, 1);
    x.hour();
    due.is("all round, no net", x.letter(0, 5), UP);
    x.net(0, 1);
    x.hour();
    due.is("all round, to its net", x.letter(0, 5), CAUGHT);
    due.is("all round, its cell", x.letter(0, 3), 0);
  }

  // "An HOUR: how many ARRIVED in it": none to five.
  private static void howManyArrived() {
    for (int n = 0; n <= 5; n++) {
      WindPost x = Due.of("g6 2;i0;i1;i2;b1;f2;");
      for (int l = 0; l < 5; l++) x.lets(0, l < n ? 1 : 2, 1);
      due.is("arrive in the first hour, of five", x.hour(), n);
      due.is("arrive in the second hour, of five", x.hour(), 5 - n);
      due.is("arrive in the third hour, of five", x.hour(), 0);
    }
    due.is("an hour without letters", letters(0).hour(), 0);
  }

  // "A NET is spread (1), taken in (0): whether there was one. BAD"; "(none at first)".
  private static void netSpread() {
    WindPost x = letters(0);
    due.is("none at first", x.now(3), 0);
    for (int i = 0; i < 3; i++) due.is("none at first, isle " + i, x.isle(i, 1), 0);
    due.is("taken in, none there", x.net(1, 0), 0);
    due.is("spread", x.net(1, 1), 0);
    due.is("spread again", x.net(1, 1), 1);
    due.is("it is there", x.isle(1, 1), 1);
    due.is("taken in", x.net(1, 0), 1);
    due.is("taken in again", x.net(1, 0), 0);
    due.is("it is not there", x.isle(1, 1), 0);
    due.is("each of them may be undone", x.now(4), 5);
    due.edges("net(i, 1)", 0, 2, BAD, Due::rich, (y, a) -> y.net(a, 1));
    due.edges("net(i, 0)", 0, 2, BAD, Due::rich, (y, a) -> y.net(a, 0));
    due.edges("net(0, is)", 0, 1, BAD, Due::rich, (y, a) -> y.net(0, a));
    due.edges("net(2, is)", 0, 1, BAD, Due::rich, (y, a) -> y.net(2, a));
  }

  private static void netOfEachIsle() {
    WindPost x = Due.of("i0;i1;i2;i3;i4;i5;");
    for (int i = 0; i < 6; i++) {
      due.is("net(" + i + ", 1) of six", x.net(i, 1), 0);
      due.is("nets up to " + i, x.now(3), (2 << i) - 1);
      for (int j = 0; j < 6; j++) due.is("net of " + j + " by now, " + i, x.isle(j, 1), j <= i ? 1 : 0);
    }
    for (int i = 0; i < 6; i++) {
      due.is("net(" + i + ", 0) of six", x.net(i, 0), 1);
      due.is("nets above " + i, x.now(3), 63 - ((2 << i) - 1));
      for (int j = 0; j < 6; j++) due.is("net of " + j + " left, " + i, x.isle(j, 1), j <= i ? 0 : 1);
    }
    due.refused("net(6, 1) of six", () -> Due.of("i0;i1;i2;i3;i4;i5;"), y -> y.net(6, 1), BAD);
  }

  // "TURNED: the WIND (0 .. 4) of the k-th HOUR told (0 the first) becomes w: what it was. BAD".
  private static void windTurned() {
    for (int n = 0; n <= 12; n++) {
      String sea = n == 0 ? "i0;" : "b" + "1 ".repeat(n) + ";";
      due.refused("turn(" + n + ", 2) of " + n, () -> Due.of(sea), x -> x.turn(x.count(4), 2), BAD);
      due.refused("turn(-1, 2) of " + n, () -> Due.of(sea), x -> x.turn(-1, 2), BAD);
      WindPost x = Due.of(sea);
      for (int k = 0; k < n; k++) due.is("turn(" + k + ", 2) of " + n, x.turn(k, 2), 1);
      for (int k = 0; k < n; k++) due.is("turned, " + k + " of " + n, x.wind(k), 2);
      due.is("as many as there were, " + n, x.count(4), n);
    }
    WindPost x = Due.of("b1 2 3;");
    x.hour();
    int was = 1;
    for (int w = 4; w >= 0; w--) {
      due.is("turn(0, " + w + ")", x.turn(0, w), was);
      due.is("the hour told first, not the next one", x.wind(2), w);
      due.is("the next one stays", x.wind(0), 2);
      was = w;
    }
    due.is("turned as it was", x.turn(0, 0), 0);
    due.is("that may be undone, too", x.now(4), 7);
    due.edges("turn(k, 3)", 0, 1, BAD, Due::rich, (y, a) -> y.turn(a, 3));
    due.edges("turn(0, w)", 0, 4, BAD, Due::rich, (y, a) -> y.turn(0, a));
    due.edges("turn(1, w)", 0, 4, BAD, Due::rich, (y, a) -> y.turn(1, a));
  }

  private static void doSome(WindPost x, int kind) {
    if (kind == 0) x.lets(1, 0, 2);
    if (kind == 1) x.hour();
    if (kind == 2) x.net(1, 1 - x.isle(1, 1));
    if (kind == 3) x.turn(0, 4 - x.wind(0) % 3);
  }

  // "UNDONE: the latest lets(), hour(), net(), turn()": each of them, behind each other one.
  private static void undoneByKind() {
    for (int first = 0; first < 4; first++) {
      for (int second = 0; second < 4; second++) {
        WindPost x = Due.of("g6 2;i0;i1;i3;b1 2;f3;");
        x.lets(0, 2, 2);
        String one = Due.brief(x);
        doSome(x, first);
        String two = Due.brief(x);
        doSome(x, second);
        due.is("it is another one, " + first + " " + second, Due.brief(x).equals(two) ? 1 : 0, 0);
        due.is("undo() of kind " + second, x.undo(), 2);
        due.alike("undone, kind " + second, Due.brief(x), two);
        due.is("undo() of kind " + first, x.undo(), 1);
        due.alike("undone, kind " + first, Due.brief(x), one);
      }
    }
  }

  // Each of all there can be: twelve WINDS, six NETS, five LETTERS.
  private static void undoneByEach() {
    String sea = "g6 2;i0;i1;i2;i3;i4;i5;b1 2 3 0 4 1 2 3 0 4 1 2;f2;";
    for (int k = 0; k < 12; k++) {
      WindPost x = Due.of(sea);
      String was = Due.brief(x);
      x.turn(k, 4 - x.wind(k));
      x.turn(k, (x.wind(k) + 1) % 5);
      x.undo();
      due.is("undone but one, wind " + k, x.wind(k), 4 - Due.of(sea).wind(k));
      x.undo();
      due.alike("undone, wind " + k, Due.brief(x), was);
    }
    for (int i = 0; i < 6; i++) {
      WindPost x = Due.of(sea);
      x.net(i, 1);
      x.net(i, 0);
      due.is("undone, net taken in at " + i, x.undo(), 1);
      due.is("it is there, " + i, x.now(3), 1 << i);
      due.is("undone, net spread at " + i, x.undo(), 0);
      due.is("it is not there, " + i, x.now(3), 0);
    }
    WindPost x = Due.of(sea);
    for (int l = 0; l < 5; l++) x.lets(0, 1, 1);
    String was = Due.brief(x);
    for (int n = 0; n < 5; n++) x.hour();
    due.is("all five arrived", x.now(2), 0);
    for (int n = 0; n < 5; n++) x.undo();
    due.alike("undone, five letters", Due.brief(x), was);
  }

  /** One on which so many calls that may be undone were done, each kind by turns. */
  private static WindPost behind(int n) {
    WindPost x = Due.of("g6 2;i0;i1;i3;b1 2;f3;");
    for (int done = 0; done < n; done++) doSome(x, done == 20 || done == 24 ? 1 : done % 4);
    return x;
  }

  /** The state, by so few calls that all is asked before call 512. */
  private static String glance(WindPost x) {
    StringBuilder all = new StringBuilder();
    for (int what = 0; what < 4; what++) all.append(x.now(what)).append(' ');
    for (int k = 0; k < 2; k++) all.append(x.wind(k)).append(' ');
    for (int l = 0; l < 5; l++) all.append(x.letter(l, 3)).append(' ').append(x.letter(l, 5)).append(' ');
    return all.toString();
  }

  // "(10 are known, older ones are lost)".
  private static void tenAreKnown() {
    for (int n = 0; n <= 25; n++) {
      WindPost x = behind(n);
      int known = Math.min(n, 10);
      due.is("known behind " + n, x.now(4), known);
      for (int more = known - 1; more >= 0; more--) {
        due.is("undo() behind " + n, x.undo(), more);
        due.alike("as it was, behind " + n + ", " + more + " more", glance(x), glance(behind(n - known + more)));
      }
      due.is("the older ones are lost, behind " + n, x.undo(), STATE);
      due.alike("as it was, behind " + n + ", refused", glance(x), glance(behind(n - known)));
      due.is("none is known, behind " + n, x.now(4), 0);
      x.net(0, 1);
      due.is("one is known again", x.now(4), 1);
    }
  }

  // ".. that was not refused": what was refused, or only looks, takes no place among the ten.
  private static void refusedIsNotKnown() {
    WindPost x = letters(5);
    for (int n = 0; n < 12; n++) {
      x.lets(0, 1, 1);
      x.lets(0, 0, 1);
      x.net(3, 1);
      x.net(0, 2);
      x.turn(1, 1);
      x.turn(0, 5);
      x.type(300);
      x.back(0);
      x.back(2);
      x.keep(2);
      x.where(0, 61);
      x.where(0, 60);
      x.soonest(0, 1, 1, 0);
      x.rate(0, 0);
      x.keep(1);
      due.is("five as before, " + n, x.now(4), 5);
    }
    for (int n = 4; n >= 0; n--) {
      due.is("undo(), " + n, x.undo(), n);
      due.is("its letter, " + n, x.now(1), n);
    }
    due.is("and none more", x.undo(), STATE);
  }

  // "undo(): .. STATE: none".
  private static void noneToUndo() {
    due.refused("undo() of a new object", WindPost::new, WindPost::undo, STATE);
    due.refused("undo() of one just read", () -> Due.of("i0;i1;b1;"), WindPost::undo, STATE);
    due.refused("undo() when all is undone", () -> {
      WindPost x = letters(3);
      for (int n = 0; n < 3; n++) x.undo();
      return x;
    }, WindPost::undo, STATE);
    due.refused("undo() behind back()", () -> {
      WindPost x = letters(3);
      x.keep(1);
      x.hour();
      x.back(1);
      return x;
    }, WindPost::undo, STATE);
  }
}
