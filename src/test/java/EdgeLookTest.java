/** The edges that the document names of what is foretold: terms 3, promises 15 to 27. */
public final class EdgeLookTest {
  private static final Due due = new Due("EdgeLookTest");
  private static final int BAD = WindPost.BAD, NONE = WindPost.NONE, NO = WindPost.NO;

  /** What is let up in hour 11 of 12 comes to isle 1 in that hour; what is let up ahead of it never does. */
  private static final String JUST_LAST = "g6 3;i0;i1;b2 4 4 4 4 4 4 4 4 4 3 1;f2;";
  /** What is let up in hour 0 comes to isle 1 in that hour; what is let up behind it never does. */
  private static final String JUST_FIRST = "g6 3;i0;i1;b1 4 4 4 4 4 4 4 4 4 4 3;f2;";
  /** East in hour 3 of 12, north in hour 11: from cell 23 on cell 29 behind 24 rounds. */
  private static final String FAR = "g6 5;i23;i29;b4 4 4 1 4 4 4 4 4 4 4 0;f2;";
  /** A cell east in hour 11 of 12, so that each cell takes a round. */
  private static final String SLOW = "g6 2;i0;i5;i4;b4 4 4 4 4 4 4 4 4 4 4 1;f2;";

  public static void main(String[] args) {
    nothingIsChanged();
    whereAndBlotsByHours();
    whereRefused();
    comesNone();
    comesFar();
    soonestEachHour();
    soonestTheLeast();
    soonestFar();
    soonestRefused();
    lightestWithin();
    lightestEachWeight();
    lightestRefused();
    wordsOfSomeWeight();
    wordsInSomeHour();
    wordsOfAll();
    wordsRefused();
    netsByFewest();
    netsMore();
    netsInEachHour();
    netsRefused();
    whoInEachHour();
    whoJustBlots();
    whoRefused();
    netsThereAreCount();
    due.end();
  }

  private static WindPost up(String sea, int from, int to, int weight) {
    WindPost x = Due.of(sea);
    x.lets(from, to, weight);
    return x;
  }

  // "(As things are NOW; nothing is changed.)": each call that looks.
  private static void nothingIsChanged() {
    Due.Call[] looks = {x -> x.where(0, 60), x -> x.comes(0), x -> x.blots(1, 60), x -> x.loop(1),
        x -> x.tangled(0, 1), x -> x.soonest(0, 1, 1, 0), x -> x.soonest(1, 0, 1, 1), x -> x.lightest(0, 1, 60),
        x -> x.words(0), x -> x.nets(0, 1, 1), x -> x.who(1, 1, 3), x -> x.knee(12, 12), x -> x.drift(1, 0),
        x -> x.odds(1, 5, 6, 0), x -> x.isle(0, 1), x -> x.cell(0), x -> x.wind(400), x -> x.letter(0, 4),
        x -> x.now(4), x -> x.count(6), x -> x.trace()};
    for (int n = 0; n < looks.length; n++) {
      long first = looks[n].ask(Due.rich());
      Due.Call look = looks[n];
      due.refused("look " + n, Due::rich, look, first);
      WindPost x = Due.rich();
      due.is("look " + n + " once", look.ask(x), first);
      due.is("look " + n + " again", look.ask(x), first);
    }
  }

  // "WHERE a LETTER is in n (0 .. 60) HOURS"; "BLOTS it will have in n HOURS": hour by hour.
  private static void whereAndBlotsByHours() {
    String[] seas = {"g6 5;i0;i29;i7;i14;x3;b1 2 2 4 1;f2;", SLOW, FAR, "g2 2;i0;i3;b1 1 2;f3;", "i0;i1;"};
    for (String sea : seas) {
      for (int net = 0; net <= 1; net++) {
        WindPost asked = up(sea, 0, 1, 1);
        WindPost goes = up(sea, 0, 1, 1);
        if (asked.count(2) > 2) asked.net(2, net);
        if (goes.count(2) > 2) goes.net(2, net);
        for (int n = 0; n <= 60; n++) {
          due.is(sea + " where in " + n, asked.where(0, n), goes.letter(0, 3));
          due.is(sea + " blots in " + n, asked.blots(0, n), goes.letter(0, 4));
          goes.hour();
        }
      }
    }
    WindPost slow = up(SLOW, 0, 1, 1);
    due.is("in 0 hours", slow.where(0, 0), 0);
    due.is("in 59 hours", slow.where(0, 59), 4);
    due.is("in 60 hours", slow.where(0, 60), 5);
    due.is("blots in 0 hours", slow.blots(0, 0), 1);
    due.is("blots in 59 hours", slow.blots(0, 59), 5);
    due.is("blots in 60 hours", slow.blots(0, 60), 7);
  }

  // "BAD" of where() and blots(), by none to five letters.
  private static void whereRefused() {
    due.edges("where(l, 0)", 0, 2, BAD, Due::rich, (x, a) -> x.where(a, 0));
    due.edges("where(0, n)", 0, 60, BAD, Due::rich, (x, a) -> x.where(0, a));
    due.edges("where(2, n)", 0, 60, BAD, Due::rich, (x, a) -> x.where(2, a));
    due.edges("blots(l, 0)", 0, 2, BAD, Due::rich, (x, a) -> x.blots(a, 0));
    due.edges("blots(0, n)", 0, 60, BAD, Due::rich, (x, a) -> x.blots(0, a));
    due.edges("blots(2, n)", 0, 60, BAD, Due::rich, (x, a) -> x.blots(2, a));
    due.edges("comes(l)", 0, 2, BAD, Due::rich, (x, a) -> x.comes(a));
    WindPost x = Due.of("g2 2;i3;i0;b1;");
    for (int n = 0; n <= 5; n++) {
      for (int l = 0; l < 7; l++) {
        due.is("where " + l + " of " + n, x.where(l, 0), l < n ? 3 : BAD);
        due.is("blots " + l + " of " + n, x.blots(l, 60), l < n ? 1 : BAD);
        due.is("comes " + l + " of " + n, x.comes(l), l < n ? NONE : BAD);
      }
      x.lets(0, 1, 5);
    }
  }

  // "COMES: .. (0: it did); NONE".
  private static void comesNone() {
    WindPost x = up("g6 2;i0;i1;b1;f2;", 0, 1, 1);
    due.is("in an hour", x.comes(0), 1);
    x.hour();
    due.is("it did", x.comes(0), 0);
    Due.hours(x, 30);
    due.is("it did long ago", x.comes(0), 0);
    due.is("too heavy", up("g6 2;i0;i1;b1;f2;", 0, 1, 2).comes(0), NONE);
    due.is("no wind told", up("g6 2;i0;i1;f2;", 0, 1, 1).comes(0), NONE);
    due.is("another row", up("g6 2;i0;i7;b1;f2;", 0, 1, 1).comes(0), NONE);
    WindPost y = up("g6 2;i0;i2;i1;b1;f2;", 0, 1, 1);
    y.net(2, 1);
    due.is("it will be caught", y.comes(0), NONE);
    y.hour();
    y.net(2, 0);
    due.is("it is caught", y.comes(0), NONE);
  }

  // "COMES: in how many HOURS (0 .. 400)": 24 rounds of 12, and numbers below.
  private static void comesFar() {
    WindPost x = up(FAR, 0, 1, 1);
    for (int n = 288; n > 0; n--) {
      if (n % 2 == 0 || n < 10) due.is("hours to come, from " + n, x.comes(0), n);
      due.is("an hour, " + n + " ahead", x.hour(), n == 1 ? 1 : 0);
    }
    due.is("it did", x.comes(0), 0);
  }

  // "if it is let up in k (0 .. 11) HOURS from NOW"; "in how many HOURS from NOW".
  private static void soonestEachHour() {
    WindPost last = Due.of(JUST_LAST);
    WindPost first = Due.of(JUST_FIRST);
    for (int hour = 0; hour < 25; hour++) {
      due.is("just by k, from hour " + hour, last.soonest(0, 1, 1, 0), 11 - hour % 12);
      due.is("when, from hour " + hour, last.soonest(0, 1, 1, 1), 12 - hour % 12);
      int k = hour % 12 == 0 ? 0 : 12 - hour % 12;
      due.is("just by k, the first, from hour " + hour, first.soonest(0, 1, 1, 0), k);
      due.is("when, the first, from hour " + hour, first.soonest(0, 1, 1, 1), k + 1);
      last.hour();
      first.hour();
    }
  }

  // "the k by which it ARRIVES first, of several the least"; "NONE".
  private static void soonestTheLeast() {
    for (int east = 0; east < 12; east++) {
      StringBuilder sea = new StringBuilder("g6 2;i0;i1;b");
      for (int k = 0; k < 12; k++) sea.append(k == east ? "1 " : "4 ");
      WindPost x = Due.of(sea.append(";f2;").toString());
      due.is("as early by each k, east in " + east, x.soonest(0, 1, 1, 0), 0);
      due.is("when, east in " + east, x.soonest(0, 1, 1, 1), east + 1);
      due.is("too heavy, east in " + east, x.soonest(0, 1, 2, 0), NONE);
      due.is("too heavy, when, east in " + east, x.soonest(0, 1, 2, 1), NONE);
    }
    due.is("no wind told", Due.of("i0;i1;").soonest(0, 1, 1, 0), NONE);
    due.is("no wind told, when", Due.of("i0;i1;").soonest(0, 1, 1, 1), NONE);
    // Let up at once it goes east, south and west; let up an hour on, south alone brings it there.
    WindPost x = Due.of("g6 5;i0;i6;b1 2 3 4 4;f2;");
    due.is("later let up, sooner there", x.soonest(0, 1, 1, 0), 1);
    due.is("later let up, when", x.soonest(0, 1, 1, 1), 2);
  }

  // "(.. look at 400 HOURS from when it is UP": FAR by k to 3 takes 288 hours, by those behind it is there in 228.
  private static void soonestFar() {
    WindPost x = Due.of(FAR);
    due.is("far, k", x.soonest(0, 1, 1, 0), 4);
    due.is("far, when", x.soonest(0, 1, 1, 1), 228);
    due.is("far: words", x.words(1), 1);
    due.is("far: nets", x.nets(0, 1, 1), NONE);
    due.is("far: who", x.who(1, 1, 3), 1);
    due.is("not within 60", x.lightest(0, 1, 60), NONE);
    // With north ahead of east it is there in hour 219 by k = 0, in hour 291 by k = 3, in 231 by the others.
    x.turn(11, 4);
    x.turn(2, 0);
    due.is("turned, k", x.soonest(0, 1, 1, 0), 0);
    due.is("turned, when", x.soonest(0, 1, 1, 1), 219);
    Due.hours(x, 3);
    x.lets(0, 1, 1);
    due.is("turned, let up in hour 3", x.comes(0), 288);
    due.is("turned, k from hour 3", x.soonest(0, 1, 1, 0), 1);
    due.is("turned, when from hour 3", x.soonest(0, 1, 1, 1), 228);
  }

  private static void soonestRefused() {
    ways("soonest", (x, from, to) -> x.soonest(from, to, 1, 0));
    ways("soonest, when", (x, from, to) -> x.soonest(from, to, 1, 1));
    due.edges("soonest, weight", 1, 5, BAD, Due::rich, (x, a) -> x.soonest(0, 1, a, 0));
    due.edges("soonest, weight, when", 1, 5, BAD, Due::rich, (x, a) -> x.soonest(0, 1, a, 1));
    due.edges("soonest, what", 0, 1, BAD, Due::rich, (x, a) -> x.soonest(0, 1, 1, a));
    due.edges("soonest, what, none comes", 0, 1, BAD, Due::rich, (x, a) -> x.soonest(0, 1, 5, a));
  }

  private interface Way { long ask(WindPost x, int from, int to); }

  /** "BAD (alike, too)": each pair of numbers, by none, one, three and six isles. */
  private static void ways(String call, Way way) {
    String[] seas = {"b1;", "i0;", "g3 2;i0;i2;i5;b1;", "i0;i1;i2;i3;i4;i5;b1;"};
    int[] isles = {0, 1, 3, 6};
    for (int n = 0; n < seas.length; n++) {
      for (int from = -1; from <= 7; from++) {
        for (int to = -1; to <= 7; to++) {
          boolean there = from >= 0 && to >= 0 && from < isles[n] && to < isles[n] && from != to;
          String told = call + " from " + from + " to " + to + " of " + isles[n];
          due.is(told, way.ask(Due.of(seas[n]), from, to) == BAD ? 0 : 1, there ? 1 : 0);
        }
      }
    }
    for (int i = 0; i < 3; i++) {
      int a = i;
      due.refused(call + ", alike " + i, Due::rich, x -> way.ask(x, a, a), BAD);
      for (int far : new int[] {-1, 3, Integer.MIN_VALUE, Integer.MAX_VALUE}) {
        due.refused(call + " from " + far, Due::rich, x -> way.ask(x, far, a), BAD);
        due.refused(call + " to " + far, Due::rich, x -> way.ask(x, a, far), BAD);
      }
    }
  }

  // "LIGHTEST .. within n (1 .. 60) HOURS, let up NOW": just in time, and an hour too late.
  private static void lightestWithin() {
    WindPost x = Due.of(SLOW);
    for (int hour = 0; hour < 12; hour++) {
      int takes = 60 - hour;
      due.is("within " + takes, x.lightest(0, 1, takes), 1);
      due.is("within one less than " + takes, x.lightest(0, 1, takes - 1), NONE);
      due.is("to isle 2 within " + (takes - 12), x.lightest(0, 2, takes - 12), 1);
      due.is("to isle 2 within one less", x.lightest(0, 2, takes - 13), NONE);
      x.hour();
    }
    WindPost one = Due.of("g6 2;i0;i1;b1 4;f2;");
    due.is("within 1", one.lightest(0, 1, 1), 1);
    one.hour();
    due.is("let up now, not sooner", one.lightest(0, 1, 1), NONE);
    due.is("within 2", one.lightest(0, 1, 2), 1);
    // It would be there in 49 hours, or in 61 from an hour before that.
    WindPost late = Due.of("g6 2;i0;i5;b1 4 4 4 4 4 4 4 4 4 4 4;f2;");
    due.is("within 49", late.lightest(0, 1, 49), 1);
    due.is("within 48", late.lightest(0, 1, 48), NONE);
  }

  private static String justOneWeight(int weight) { return "g6 2;i0;i1;x5;b1 3;f" + (weight + 1) + ";"; }

  // "the least WEIGHT (1 .. 5) by which it ARRIVES by then; NONE": each of them.
  private static void lightestEachWeight() {
    for (int weight = 1; weight <= 5; weight++) {
      WindPost x = Due.of(justOneWeight(weight));
      due.is("just weight " + weight, x.lightest(0, 1, 60), weight);
      due.is("just weight " + weight + ", in an hour", x.lightest(0, 1, 1), weight);
      for (int w = 1; w <= 5; w++) {
        due.is("soonest by " + w + ", just " + weight, x.soonest(0, 1, w, 0), w == weight ? 0 : NONE);
      }
    }
    WindPost x = Due.of("g6 2;i0;i3;i5;b1;f6;");
    int[] within = {3, 3, 1, 1};
    for (int n = 1; n <= 4; n++) due.is("three cells off, within " + n, x.lightest(0, 1, n), within[n - 1]);
    due.is("five cells off, within 1", x.lightest(0, 2, 1), 1);
    due.is("none by weight", Due.of("g6 2;i0;i1;b1;f1;").lightest(0, 1, 60), NONE);
  }

  private static void lightestRefused() {
    ways("lightest", (x, from, to) -> x.lightest(from, to, 60));
    due.edges("lightest, n", 1, 60, BAD, Due::rich, (x, a) -> x.lightest(0, 1, a));
    due.edges("lightest, n, no wind", 1, 60, BAD, () -> Due.of("i0;i1;"), (x, a) -> x.lightest(0, 1, a));
  }

  // "WORDS of an ISLE: ISLES (bits) from which a LETTER of some WEIGHT ..": by just one of them.
  private static void wordsOfSomeWeight() {
    for (int weight = 1; weight <= 5; weight++) {
      due.is("just weight " + weight, Due.of(justOneWeight(weight)).words(1), 1);
      due.is("just weight " + weight + ", and too heavy then",
          Due.of(justOneWeight(weight).replace("f" + (weight + 1), "f1")).words(1), 0);
    }
  }

  // ".. let up in some k (0 .. 11) HOURS": by just one of them, each.
  private static void wordsInSomeHour() {
    WindPost last = Due.of(JUST_LAST);
    WindPost first = Due.of(JUST_FIRST);
    for (int hour = 0; hour < 13; hour++) {
      due.is("just by k = " + (11 - hour % 12), last.words(1), 1);
      due.is("just by k = " + (12 - hour) % 12, first.words(1), 1);
      last.hour();
      first.hour();
    }
    for (int k = 10; k < 12; k++) last.turn(k, 4);
    for (int k = 0; k < 12; k++) first.turn(k, 4);
    due.is("and by none", last.words(1), 0);
    due.is("and by none, the first", first.words(1), 0);
  }

  private static void wordsOfAll() {
    WindPost x = Due.of("g6 2;i0;i1;i2;i3;i4;i5;b1;f2;");
    for (int i = 0; i < 6; i++) due.is("all but itself, " + i, x.words(i), 63 - (1 << i));
    for (int i = 0; i < 6; i++) x.net(i, 1);
    for (int i = 0; i < 6; i++) due.is("just the one next to it, " + i, x.words(i), 1 << (i + 5) % 6);
    due.is("an isle alone", Due.of("i0;b1;").words(0), 0);
    due.is("no wind told", Due.of("i0;i1;").words(0), 0);
  }

  private static void wordsRefused() {
    due.edges("words(i)", 0, 2, BAD, Due::rich, WindPost::words);
    due.edges("words(i) of one", 0, 0, BAD, () -> Due.of("i7;b1;"), WindPost::words);
    due.edges("words(i) of six", 0, 5, BAD, () -> Due.of("i0;i1;i2;i3;i4;i5;b1;"), WindPost::words);
    due.refused("words(0) of none", WindPost::new, x -> x.words(0), BAD);
  }

  /** Whether none that is let up in 0 to 11 hours arrives with these nets, found by comes() in each hour. */
  private static boolean kept(String sea, int nets, int from, int to, int weight) {
    for (int k = 0; k < 12; k++) {
      WindPost x = Due.of(sea);
      for (int i = 0; i < x.count(2); i++) if ((nets >> i & 1) == 1) x.net(i, 1);
      Due.hours(x, k);
      x.lets(from, to, weight);
      if (x.comes(0) != NONE) return false;
    }
    return true;
  }

  private static int netsByAll(String sea, int there, int from, int to, int weight) {
    int isles = Due.of(sea).count(2);
    for (int size = 0; size <= 4; size++) {
      for (int more = 0; more < 1 << isles; more++) {
        boolean neither = (more >> from & 1) == 0 && (more >> to & 1) == 0;
        if (neither && Integer.bitCount(more) == size && kept(sea, there | more, from, to, weight)) return more;
      }
    }
    return NONE;
  }

  // "NETS ..: the fewest NETS more (ISLES as bits, neither of the two; of as few the least) ..; NONE".
  private static void netsByFewest() {
    due.is("none is needed, no wind", Due.of("i0;i1;").nets(0, 1, 1), 0);
    due.is("none is needed, too heavy", Due.of("g6 2;i0;i1;b1;f2;").nets(0, 1, 2), 0);
    due.is("next to it", Due.of("g6 2;i0;i1;b1;f2;").nets(0, 1, 1), NONE);
    due.is("of as few the least", Due.of("g6 2;i0;i1;i2;i3;i4;i5;b1;f2;").nets(0, 5, 1), 2);
    due.is("of as few the least, back", Due.of("g6 2;i5;i4;i3;i2;i1;i0;b1;f2;").nets(5, 0, 1), 2);
    due.is("all four", Due.of("g4 2;i2;i4;i1;i3;i5;i7;b0 2 3 3 0 1 1 2;f2;").nets(0, 1, 1), 60);
    String[] seas = {"g4 2;i2;i4;i1;i3;i5;i7;b0 2 3 3 0 1 1 2;f2;", "g4 5;i3;i5;i9;i6;i11;i8;b1 1 1 0 0 1;f2;",
        "g6 3;i15;i9;i13;i11;i7;i17;b0 1 0 3;f3;", "g6 2;i0;i1;i2;i3;i4;i5;b1;f2;", "g4 4;i0;i1;i4;i10;i5;b1 2;f2;",
        JUST_LAST, JUST_FIRST, FAR};
    for (String sea : seas) {
      WindPost x = Due.of(sea);
      int isles = x.count(2);
      for (int from = 0; from < isles; from++) {
        for (int to = 0; to < isles; to++) {
          if (from == to) continue;
          due.is(sea + " nets(" + from + ", " + to + ", 1)", x.nets(from, to, 1), netsByAll(sea, 0, from, to, 1));
        }
      }
    }
  }

  // ".. NETS more": those that are there need no more, and are none of those told.
  private static void netsMore() {
    String sea = "g4 2;i2;i4;i1;i3;i5;i7;b0 2 3 3 0 1 1 2;f2;";
    for (int there = 0; there < 64; there++) {
      WindPost x = Due.of(sea);
      for (int i = 0; i < 6; i++) if ((there >> i & 1) == 1) x.net(i, 1);
      due.is("with nets " + there, x.nets(0, 1, 1), 60 & ~there);
    }
  }

  // ".. by which none that is let up in 0 .. 11 HOURS from NOW ARRIVES".
  private static void netsInEachHour() {
    WindPost last = Due.of(JUST_LAST);
    WindPost first = Due.of(JUST_FIRST);
    for (int hour = 0; hour < 13; hour++) {
      due.is("just by k = " + (11 - hour % 12), last.nets(0, 1, 1), NONE);
      due.is("just by k = " + (12 - hour) % 12, first.nets(0, 1, 1), NONE);
      last.hour();
      first.hour();
    }
    for (int k = 10; k < 12; k++) last.turn(k, 4);
    for (int k = 0; k < 12; k++) first.turn(k, 4);
    due.is("and by none", last.nets(0, 1, 1), 0);
    due.is("and by none, the first", first.nets(0, 1, 1), 0);
  }

  private static void netsRefused() {
    ways("nets", (x, from, to) -> x.nets(from, to, 1));
    due.edges("nets, weight", 1, 5, BAD, Due::rich, (x, a) -> x.nets(0, 1, a));
    due.edges("nets, weight, no wind", 1, 5, BAD, () -> Due.of("i0;i1;"), (x, a) -> x.nets(0, 1, a));
  }

  // "WHO can let up one of WEIGHT w in some k (0 .. 11) HOURS from NOW".
  private static void whoInEachHour() {
    WindPost last = Due.of(JUST_LAST);
    WindPost first = Due.of(JUST_FIRST);
    for (int hour = 0; hour < 13; hour++) {
      due.is("just by k = " + (11 - hour % 12), last.who(1, 1, 3), 1);
      due.is("just by k = " + (12 - hour) % 12, first.who(1, 1, 3), 1);
      due.is("not by another weight", last.who(1, 2, 3), 0);
      last.hour();
      first.hour();
    }
    for (int weight = 1; weight <= 5; weight++) {
      WindPost x = Due.of(justOneWeight(weight));
      for (int w = 1; w <= 5; w++) due.is("by " + w + ", just " + weight, x.who(1, w, 3), w == weight ? 1 : 0);
    }
  }

  // "so that it ARRIVES with just the BLOTS told: ISLES (bits)".
  private static void whoJustBlots() {
    WindPost x = Due.of("g6 2;i0;i1;i2;i3;i4;i5;b1;f2;");
    for (int to = 0; to < 6; to++) {
      for (int blots = 0; blots < 64; blots++) {
        // From each isle it has the blots of all from there to where it goes.
        int want = 0;
        for (int from = 0; from < 6; from++) {
          int has = 0;
          for (int i = from; i != to; i = (i + 1) % 6) has |= 1 << i;
          if (from != to && (has | 1 << to) == blots) want |= 1 << from;
        }
        due.is("who(" + to + ", 1, " + blots + ")", x.who(to, 1, blots), want);
      }
    }
    // Isles 0 and 2 lie on both sides of isle 1; the winds of each hour bring one of them there at once.
    WindPost two = Due.of("g6 2;i0;i1;i2;b1 3;f2;");
    due.is("from the one side", two.who(1, 1, 3), 1);
    due.is("from the other side", two.who(1, 1, 6), 4);
    due.is("with none too many", two.who(1, 1, 7), 0);
    WindPost both = Due.of("g2 2;i0;i1;i2;i3;b1 2;f2;");
    due.is("by k one isle has unlike blots", both.who(3, 1, 11), 1);
    due.is("by k it has these, too", both.who(3, 1, 13), 1);
    WindPost pair = Due.of("g4 2;i1;i0;i2;b1 1 1 3 3 3;f2;");
    due.is("two isles, with the same blots", pair.who(0, 1, 7), whoByHours("g4 2;i1;i0;i2;b1 1 1 3 3 3;f2;", 0, 1, 7));
  }

  private static int whoByHours(String sea, int to, int weight, int blots) {
    int found = 0;
    for (int from = 0; from < 3; from++) {
      for (int k = 0; k < 12 && from != to; k++) {
        WindPost x = Due.of(sea);
        Due.hours(x, k);
        x.lets(from, to, weight);
        for (int n = 0; n < 400 && x.now(2) != 0; n++) x.hour();
        if (x.letter(0, 5) == 1 && x.letter(0, 4) == blots) found |= 1 << from;
      }
    }
    return found;
  }

  // "BAD (BLOTS of ISLES there are)": by one to six isles.
  private static void whoRefused() {
    String[] isles = {"i0;", "i1;", "i2;", "i3;", "i4;", "i5;"};
    StringBuilder text = new StringBuilder("b1;");
    for (int n = 1; n <= 6; n++) {
      String sea = text.append(isles[n - 1]).toString();
      due.edges("who(0, 1, blots) of " + n, 0, (1 << n) - 1, BAD, () -> Due.of(sea), (x, a) -> x.who(0, 1, a));
      due.edges("who(to, 1, 1) of " + n, 0, n - 1, BAD, () -> Due.of(sea), (x, a) -> x.who(a, 1, 1));
    }
    due.edges("who, blots", 0, 7, BAD, Due::rich, (x, a) -> x.who(1, 1, a));
    due.edges("who, to", 0, 2, BAD, Due::rich, (x, a) -> x.who(a, 1, 3));
    due.edges("who, weight", 1, 5, BAD, Due::rich, (x, a) -> x.who(1, a, 3));
    due.refused("who, no isles", WindPost::new, x -> x.who(0, 1, 0), BAD);
  }

  // "NETS there are count"; but none where it goes, nor where it is let up.
  private static void netsThereAreCount() {
    for (int net = -1; net < 3; net++) {
      WindPost x = Due.of("g6 2;i0;i2;i1;b1;f2;");
      if (net >= 0) x.net(net, 1);
      x.lets(0, 1, 1);
      boolean free = net != 2;
      String told = net < 0 ? "no net" : "a net at " + net;
      due.is("comes, " + told, x.comes(0), free ? 2 : NONE);
      due.is("soonest, " + told, x.soonest(0, 1, 1, 0), free ? 0 : NONE);
      due.is("soonest, when, " + told, x.soonest(0, 1, 1, 1), free ? 2 : NONE);
      due.is("lightest, " + told, x.lightest(0, 1, 60), free ? 1 : NONE);
      due.is("words, " + told, x.words(1), free ? 5 : 4);
      due.is("nets, " + told, x.nets(0, 1, 1), free ? 4 : 0);
      due.is("who, " + told, x.who(1, 1, 7), free ? 1 : 0);
      due.is("who next to it, " + told, x.who(1, 1, 6), 4);
      due.is("odds, " + told, x.odds(0, 0, 2, 0), free ? 1 : 0);
      due.is("where, " + told, x.where(0, 60), free ? 2 : 1);
      due.is("blots, " + told, x.blots(0, 60), free ? 7 : 1);
    }
  }
}
