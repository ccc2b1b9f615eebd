/** The edges that the document names of kinds and images, terms 4, and of the order in which a call is refused. */
public final class EdgeKindTest {
  private static final Due due = new Due("EdgeKindTest");
  private static final int BAD = WindPost.BAD, STATE = WindPost.STATE, FULL = WindPost.FULL, NO = WindPost.NO;

  public static void main(String[] args) {
    rateByAll();
    rateBelowNull();
    rateAddsOnce();
    rateRefused();
    traceAtFirst();
    traceFar();
    imagesAtFirst();
    imagesTwo();
    imageKeepsNow();
    imageKeepsEach();
    imageKeepsLetters();
    imageKeptOver();
    nothingElse();
    backThenUndo();
    imagesGone();
    imagesRefused();
    refusedInOrder();
    fiveHundredAndTwelve();
    due.end();
  }

  // "RATE of a LETTER as if of a KIND": each kind, by each weight, at each edge of blots, cells, numbers, hours.
  private static void rateByAll() {
    for (int number = 0; number < 5; number++) {
      for (int weight = 1; weight <= 5; weight++) {
        WindPost x = Due.of("g6 5;i29;i24;i0;b1;f6;");
        for (int l = 0; l < number; l++) x.lets(1, 2, 5);
        x.lets(0, 1, weight);
        for (int hour = 0; hour < 3; hour++) {
          rates(x, number, weight);
          x.hour();
        }
      }
    }
    WindPost all = Due.of("g6 2;i0;i1;i2;i3;i4;i5;b1;f2;");
    all.lets(0, 5, 1);
    for (int hour = 0; hour <= 6; hour++) {
      due.is("its blots as a summons, hour " + hour, all.rate(1, 0), 1 + Math.min(6, 1 + hour));
      due.is("its blots as a bill, hour " + hour, all.rate(3, 0), 2 + 2 * Math.min(6, 1 + hour));
      all.hour();
    }
  }

  private static void rates(WindPost x, int l, int weight) {
    int cell = x.letter(l, 3), blots = Integer.bitCount(x.letter(l, 4)), hour = x.now(0);
    int[] want = {weight, weight + blots, weight - cell, 2 * (weight + blots), weight - cell + l, weight + hour};
    for (int kind = 0; kind < 6; kind++) {
      due.is("rate(" + kind + ", " + l + "), weight " + weight + ", hour " + hour, x.rate(kind, l), want[kind]);
    }
  }

  // A rate may be below 0, and as BAD, STATE, FULL or NONE are, and is none of them.
  private static void rateBelowNull() {
    WindPost x = Due.of("g6 5;i29;i2;i3;i4;i10;i5;b1;f1;");
    int[] want = {-28, -1, -2, -3, -9, -4};
    for (int from = 0; from < 5; from++) {
      x.lets(from, 5, 1);
      due.is("a goose from isle " + from, x.rate(2, from), want[from]);
      due.is("a vow from isle " + from, x.rate(4, from), want[from] + from);
    }
  }

  // "(numbers in brackets are added to THE TRACE .. each once)".
  private static void rateAddsOnce() {
    int[] adds = {1, 11, 101, 1011, 10101, 100001};
    for (int kind = 0; kind < 6; kind++) {
      for (int l = 0; l < 5; l++) {
        WindPost x = Due.of("i0;i1;b1;f2;");
        for (int n = 0; n < 5; n++) x.lets(0, 1, 1 + n);
        x.rate(kind, l);
        due.is("trace() behind rate(" + kind + ", " + l + ")", x.trace(), adds[kind]);
        x.rate(kind, l);
        due.is("trace() behind two", x.trace(), 2 * adds[kind]);
        due.is("trace() adds nothing", x.trace(), 2 * adds[kind]);
      }
    }
  }

  // "RATE. NO: BAD"; refused, it adds nothing.
  private static void rateRefused() {
    due.edges("rate(kind, 0)", 0, 5, NO, Due::rich, (x, a) -> x.rate(a, 0));
    due.edges("rate(kind, 2)", 0, 5, NO, Due::rich, (x, a) -> x.rate(a, 2));
    for (int kind = 0; kind < 6; kind++) {
      int k = kind;
      due.edges("rate(" + kind + ", l)", 0, 2, NO, Due::rich, (x, a) -> x.rate(k, a));
      due.edges("rate(" + kind + ", l) of five", 0, 4, NO, EdgeKindTest::five, (x, a) -> x.rate(k, a));
      due.refused("rate(" + kind + ", 0), no letter", WindPost::new, x -> x.rate(k, 0), NO);
    }
  }

  private static WindPost five() {
    WindPost x = Due.of("g3 2;i0;i1;b1;f2;");
    for (int n = 0; n < 5; n++) x.lets(n % 2, 1 - n % 2, 1 + n);
    return x;
  }

  // "THE TRACE, 0 at first".
  private static void traceAtFirst() {
    WindPost x = new WindPost();
    due.is("at first", x.trace(), 0);
    Due.tell(x, "i0;i1;b1;");
    x.lets(0, 1, 1);
    x.hour();
    due.is("no other call adds", x.trace(), 0);
    due.is("no other call adds: rich", Due.rich().trace(), 1011);
  }

  // Of 400 kites: no call takes any of it away.
  private static void traceFar() {
    WindPost x = five();
    for (int n = 0; n < 400; n++) x.rate(5, n % 5);
    due.is("400 kites", x.trace(), 400L * 100001);
    x.undo();
    x.keep(0);
    x.back(0);
    x.clear();
    due.is("not undone, in no image", x.trace(), 400L * 100001);
  }

  // "IMAGES 0, 1"; "STATE: none was kept".
  private static void imagesAtFirst() {
    for (int image = 0; image < 2; image++) {
      int i = image;
      due.refused("back(" + image + ") of a new object", WindPost::new, x -> x.back(i), STATE);
      due.refused("back(" + image + ") of one just read", () -> Due.of("i0;i1;b1;"), x -> x.back(i), STATE);
      due.refused("back(" + image + "), the other one kept", () -> {
        WindPost x = five();
        x.keep(1 - i);
        return x;
      }, x -> x.back(i), STATE);
      WindPost x = new WindPost();
      due.is("keep(" + image + ") of a new object", x.keep(image), 0);
      due.is("back(" + image + ") of a new object", x.back(image), 0);
    }
  }

  private static void imagesTwo() {
    WindPost x = five();
    due.is("keep(0)", x.keep(0), 0);
    String first = Due.brief(x);
    Due.hours(x, 3);
    x.net(1, 1);
    due.is("keep(1)", x.keep(1), 3);
    String second = Due.brief(x);
    Due.hours(x, 4);
    for (int n = 0; n < 3; n++) {
      due.is("back(0), " + n, x.back(0), 0);
      due.alike("image 0, " + n, Due.brief(x), first);
      x.turn(0, 3);
      due.is("back(1), " + n, x.back(1), 3);
      due.alike("image 1, " + n, Due.brief(x), second);
      x.hour();
    }
  }

  // "keep NOW (THE HOUR, LETTERS, NETS, WINDS)": each of them for itself.
  private static void imageKeepsNow() {
    WindPost x = Due.of("g3 2;i0;i1;i4;b1 2;f2;");
    for (int kind = 0; kind < 5; kind++) {
      String was = Due.brief(x);
      x.keep(kind % 2);
      if (kind == 0) x.hour();
      if (kind == 1) x.lets(0, 2, 1);
      if (kind == 2) x.net(1, 1);
      if (kind == 3) x.turn(1, 4);
      due.is("it is another one, " + kind, Due.brief(x).equals(was) ? 1 : 0, kind == 4 ? 1 : 0);
      due.is("back, " + kind, x.back(kind % 2), 0);
      due.alike("as it was, " + kind, Due.brief(x), was);
      x.lets(0, 1, 1 + kind);
    }
    due.is("five letters are full, back or not", x.lets(0, 1, 1), FULL);
    x.keep(0);
    x.undo();
    due.is("four", x.now(1), 4);
    x.back(0);
    due.is("five again", x.lets(0, 1, 1), FULL);
  }

  // Each of all there can be: twelve WINDS, six NETS.
  private static void imageKeepsEach() {
    String sea = "g6 2;i0;i1;i2;i3;i4;i5;b1 2 3 0 4 1 2 3 0 4 1 2;f2;";
    for (int k = 0; k < 12; k++) {
      WindPost x = Due.of(sea);
      x.turn(k, 4 - x.wind(k));
      x.net(k / 2, 1);
      x.keep(k % 2);
      String was = Due.brief(x);
      x.turn(k, (x.wind(k) + 1) % 5);
      x.net(k / 2, 0);
      due.is("back, wind " + k, x.back(k % 2), 0);
      due.alike("as it was, wind " + k, Due.brief(x), was);
      due.is("its wind, " + k, x.wind(k), 4 - Due.of(sea).wind(k));
      due.is("its net, " + k / 2, x.now(3), 1 << k / 2);
    }
  }

  // LETTERS of an image are those of then, whatever was let up instead of them.
  private static void imageKeepsLetters() {
    WindPost x = Due.of("g6 2;i0;i1;i4;i9;b1 2 3;f4;");
    for (int l = 0; l < 5; l++) {
      x.lets(l % 4, (l + 1) % 4, 1 + l);
      x.hour();
    }
    x.keep(1);
    String was = Due.brief(x);
    for (int n = 0; n < 10; n++) x.undo();
    for (int l = 0; l < 5; l++) x.lets((l + 2) % 4, l % 4, 5 - l);
    due.is("others were let up", Due.brief(x).equals(was) ? 1 : 0, 0);
    due.is("back(1)", x.back(1), 5);
    due.alike("the letters of then", Due.brief(x), was);
    Due.hours(x, 2);
    x.back(1);
    int[] cells = new int[5];
    for (int l = 0; l < 5; l++) cells[l] = x.where(l, 1);
    x.hour();
    for (int l = 0; l < 5; l++) due.is("from there on, letter " + l, x.letter(l, 3), cells[l]);
  }

  // An image that is kept again is the later one; keeping changes nothing else.
  private static void imageKeptOver() {
    WindPost x = five();
    for (int n = 0; n < 20; n++) {
      due.is("keep at hour " + n, x.keep(n % 2), n);
      due.is("may be undone as before, " + n, x.now(4), Math.min(10, 5 + n));
      x.hour();
    }
    due.is("the latest of image 0", x.back(0), 18);
    due.is("the latest of image 1", x.back(1), 19);
    WindPost y = Due.rich();
    String before = Due.state(y);
    y.keep(0);
    due.alike("keep() changes nothing", Due.state(y), before);
  }

  // "nothing else": the sea, the text, THE TRACE and the other image stay.
  private static void nothingElse() {
    WindPost x = five();
    x.keep(0);
    x.hour();
    x.keep(1);
    Due.type(x, "g6 5;i7;");
    x.rate(1, 0);
    due.is("back(0)", x.back(0), 0);
    due.is("the text", x.count(6), 8);
    due.is("the trace", x.trace(), 11);
    due.is("the sea", x.count(0), 3);
    due.is("the other image", x.back(1), 1);
    due.is("the text is read", x.sea(), 2);
    due.is("by its letters", x.isle(0, 0), 7);
  }

  // "(nothing can be UNDONE behind back())".
  private static void backThenUndo() {
    WindPost x = five();
    x.keep(0);
    due.is("five may be undone", x.now(4), 5);
    x.back(0);
    due.is("none may be undone", x.now(4), 0);
    due.is("undo()", x.undo(), STATE);
    due.is("it is as it was", x.now(1), 5);
    for (int n = 1; n <= 12; n++) {
      x.hour();
      due.is("known behind back(), " + n, x.now(4), Math.min(10, n));
    }
    for (int n = 9; n >= 0; n--) due.is("undone behind back(), " + n, x.undo(), n);
    due.is("not beyond back()", x.undo(), STATE);
    due.is("the hour then", x.now(0), 2);
    x.back(0);
    x.net(0, 1);
    due.is("one", x.undo(), 0);
    due.is("none beyond back()", x.undo(), STATE);
    due.is("the letters of the image", x.now(1), 5);
  }

  // "(Read anew: .. IMAGES are gone.)"; by no other call, and by no FAULT.
  private static void imagesGone() {
    WindPost x = five();
    x.keep(0);
    x.keep(1);
    Due.tell(x, "i");
    due.is("a fault, image 0", x.back(0), 0);
    due.is("a fault, image 1", x.back(1), 0);
    x.clear();
    x.hour();
    x.undo();
    due.is("image 0", x.back(0), 0);
    Due.tell(x, "");
    due.is("read anew, image 0", x.back(0), STATE);
    due.is("read anew, image 1", x.back(1), STATE);
    due.is("kept again", x.keep(1), 0);
    due.is("just that one", x.back(0), STATE);
    due.is("that one", x.back(1), 0);
  }

  // "An IMAGE is kept: THE HOUR. BAD."; "BAD; STATE".
  private static void imagesRefused() {
    due.edges("keep(image)", 0, 1, BAD, Due::rich, WindPost::keep);
    due.edges("back(image)", 0, 1, BAD, Due::rich, WindPost::back);
    due.edges("keep(image), new", 0, 1, BAD, WindPost::new, WindPost::keep);
    for (int image : new int[] {-1, 2, 5, Integer.MIN_VALUE, Integer.MAX_VALUE}) {
      due.refused("BAD ahead of STATE, " + image, WindPost::new, x -> x.back(image), BAD);
    }
  }

  // "Refused, and nothing changes, the first of these: BAD .., STATE (as told), FULL."
  private static void refusedInOrder() {
    due.is("BAD", WindPost.BAD, -1);
    due.is("STATE", WindPost.STATE, -2);
    due.is("FULL", WindPost.FULL, -3);
    due.is("NONE", WindPost.NONE, -9);
    due.is("NO", WindPost.NO, -1000000);
    due.refused("a sixth letter", EdgeKindTest::five, x -> x.lets(0, 1, 1), FULL);
    for (int[] w : new int[][] {{0, 0, 1}, {1, 1, 5}, {2, 0, 1}, {0, 2, 1}, {-1, 0, 1}, {0, 1, 0}, {0, 1, 6}}) {
      due.refused("a sixth letter, BAD", EdgeKindTest::five, x -> x.lets(w[0], w[1], w[2]), BAD);
    }
    for (int sign : new int[] {-1, 256}) {
      due.refused("letter 201, BAD", () -> {
        WindPost x = new WindPost();
        Due.type(x, " ".repeat(200));
        return x;
      }, x -> x.type(sign), BAD);
    }
  }

  // "at most 512 calls": the last of them is as good as the first.
  private static void fiveHundredAndTwelve() {
    WindPost x = new WindPost();
    int calls = 0;
    for (char c : "g2 2;i0;i3;b1 2 3;f2;".toCharArray()) {
      x.type(c);
      calls++;
    }
    x.sea();
    x.lets(0, 1, 5);
    calls += 2;
    for (; calls < 508; calls++) x.hour();
    due.is("call 509", x.now(0), 508 - 23);
    due.is("call 510", x.hour(), 0);
    due.is("call 511", x.wind(400), 1 + (508 - 23 + 1 + 400) % 3);
    due.is("call 512", x.undo(), 9);
  }
}
