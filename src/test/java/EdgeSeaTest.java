/** The edges that the document names of the text and the sea: terms 1, promises 1 to 9 and 31. */
public final class EdgeSeaTest {
  private static final Due due = new Due("EdgeSeaTest");
  private static final int BAD = WindPost.BAD, FULL = WindPost.FULL, NONE = WindPost.NONE;

  public static void main(String[] args) {
    sizes();
    sizeAtFirst();
    rowByRow();
    roundBothWays();
    sixIsles();
    sixHills();
    unlikeCells();
    cellsThereAre();
    twelveWinds();
    toldAgain();
    windsOneByOne();
    leftOver();
    noneTold();
    force();
    forceOnce();
    twoHundredLetters();
    lettersTaken();
    blanks();
    signsAtFirst();
    signsBehindOthers();
    seaFirstOfAll();
    numbers();
    firstWrongToken();
    endsTooEarly();
    itemsCounted();
    emptyThen();
    faultChangesNothing();
    anew();
    cleared();
    newObject();
    askedOfTheSea();
    askedOfLetters();
    due.end();
  }

  private static int answer(String text) { return Due.tell(new WindPost(), text); }

  private static void fault(String why, String text, int place) {
    due.is(why + ": \"" + text + "\"", answer(text), -10 - place);
  }

  private static void taken(String why, String text, int items) {
    due.is(why + ": \"" + text + "\"", answer(text), items);
  }

  private static String times(String word, int n) { return word.repeat(n); }

  // "CELLS of a sea w wide, h high (2 .. 6, 2 .. 5 ..": each pair of NUMBERS.
  private static void sizes() {
    for (int w = 0; w <= 29; w++) {
      for (int h = 0; h <= 29; h++) {
        String text = "g" + w + " " + h + ";";
        boolean wide = w >= 2 && w <= 6, high = h >= 2 && h <= 5;
        WindPost x = new WindPost();
        int place = !wide ? 1 : w < 10 ? 3 : 4;
        due.is("w wide, h high: " + text, Due.tell(x, text), wide && high ? 1 : -10 - place);
        due.is("how wide: " + text, x.count(0), wide && high ? w : 4);
        due.is("how high: " + text, x.count(1), wide && high ? h : 4);
        int cells = wide && high ? w * h : 16;
        due.is("its last cell: " + text, x.cell(cells - 1), NONE);
        due.is("behind its last cell: " + text, x.cell(cells), BAD);
        due.is("ahead of its first cell: " + text, x.cell(-1), BAD);
      }
    }
  }

  // ".. 4, 4 at first)": of a new object, and of one read anew without g.
  private static void sizeAtFirst() {
    WindPost x = new WindPost();
    for (int n = 0; n < 3; n++) {
      due.is("4 wide at first, " + n, x.count(0), 4);
      due.is("4 high at first, " + n, x.count(1), 4);
      due.is("cell 15 at first, " + n, x.cell(15), NONE);
      due.is("cell 16 at first, " + n, x.cell(16), BAD);
      Due.tell(x, "g6 5;");
      due.is("another sea, " + n, x.cell(29), NONE);
      Due.tell(x, n == 0 ? "" : "f2;");
    }
    taken("cell 15 can be told at first", "i15;", 1);
    fault("cell 16 can't", "i16;", 1);
  }

  private static int blown(int w, int h, int cell, int wind, int reach) {
    int other = cell == 0 ? 1 : 0;
    WindPost x = Due.of("g" + w + " " + h + ";i" + cell + ";i" + other + ";b" + wind + ";f6;");
    x.lets(0, 1, 6 - reach);
    x.hour();
    return x.letter(0, 3);
  }

  // "row by row, the first row north"; "0 north, 1 east, 2 south, 3 west, or not (4)".
  private static void rowByRow() {
    int[] from4 = {1, 5, 7, 3, 4};
    for (int wind = 0; wind <= 4; wind++) due.is("from the middle by " + wind, blown(3, 3, 4, wind, 1), from4[wind]);
    int[] from6 = {1, 7, 11, 5, 6};
    for (int wind = 0; wind <= 4; wind++) due.is("five wide by " + wind, blown(5, 3, 6, wind, 1), from6[wind]);
  }

  // "what goes off at one side comes in at the other one": each cell of each sea, each way, each reach.
  private static void roundBothWays() {
    for (int w = 2; w <= 6; w++) {
      for (int h = 2; h <= 5; h++) {
        for (int cell = 0; cell < w * h; cell++) {
          for (int wind = 0; wind < 4; wind++) roundFrom(w, h, cell, wind);
        }
      }
    }
  }

  private static void roundFrom(int w, int h, int cell, int wind) {
    int column = cell % w, row = cell / w;
    for (int reach = 1; reach <= 5; reach++) {
      if (wind == 0) row = row == 0 ? h - 1 : row - 1;
      if (wind == 1) column = column == w - 1 ? 0 : column + 1;
      if (wind == 2) row = row == h - 1 ? 0 : row + 1;
      if (wind == 3) column = column == 0 ? w - 1 : column - 1;
      String told = w + " wide, " + h + " high, from " + cell + " by " + wind + ", " + reach + " cells";
      due.is(told, blown(w, h, cell, wind, reach), row * w + column);
    }
  }

  // "ISLES 0 .. (6 at most)": the sixth is taken, a seventh i is a FAULT, by its own place.
  private static void sixIsles() {
    String five = "i15;i14;i13;i12;i11;";
    taken("five isles", five, 5);
    taken("six isles", five + "i0;", 6);
    fault("a seventh i", five + "i0;i1;", 23);
    fault("a seventh i, and no more", five + "i0;i", 23);
    fault("a seventh i behind another item", five + "i0;f2; i1;", 27);
    taken("six isles, six hills", five + "x1;i0;x2;x3;x4;x5;x6;", 12);
    fault("a seventh i behind hills", five + "i0;x1;x2;x3;x4;x5;x6;i7;", 41);
    WindPost x = Due.of(five + "i0;");
    for (int i = 0; i < 6; i++) due.is("isle " + i, x.isle(i, 0), i < 5 ? 15 - i : 0);
    due.is("six isles", x.count(2), 6);
    due.is("the cell of isle 5", x.cell(0), 5);
    due.refused("isle 6 of six", () -> Due.of(five + "i0;"), y -> y.isle(6, 0), BAD);
  }

  // "HILLS (6 at most)".
  private static void sixHills() {
    String five = "x15;x14;x13;x12;x11;";
    taken("five hills", five, 5);
    taken("six hills", five + "x0;", 6);
    fault("a seventh x", five + "x0;x1;", 23);
    fault("a seventh x, and no more", five + "x0;x", 23);
    fault("a seventh x behind another item", five + "x0;b2; x1;", 27);
    taken("isles behind six hills", five + "x0;i1;i2;i3;i4;i5;i6;", 12);
    fault("a seventh x behind isles", five + "x0;i1;i2;i3;i4;i5;i6;x7;", 41);
    WindPost x = Due.of(five + "x0;");
    due.is("six hills", x.count(3), 6);
    due.is("the sixth hill", x.cell(0), -5);
    due.is("the fifth hill", x.cell(11), -5);
    due.is("no hill", x.cell(1), NONE);
    due.is("no isles among them", x.count(2), 0);
  }

  // "on unlike CELLS"; "a CELL .. with an ISLE or HILL".
  private static void unlikeCells() {
    for (String first : new String[] {"i", "x"}) {
      for (String second : new String[] {"i", "x"}) {
        for (int cell : new int[] {0, 9, 10, 29}) {
          String text = "g6 5;" + first + cell + ";" + second + cell + ";";
          fault("on one cell", text, cell < 10 ? 9 : 10);
          fault("on one cell, others between", "g6 5;" + first + cell + ";b1;i2;x3;" + second + cell + ";",
              cell < 10 ? 18 : 19);
          taken("side by side", "g6 5;" + first + cell + ";" + second + (cell == 29 ? 28 : cell + 1) + ";", 3);
        }
      }
    }
    taken("each cell of the least sea", "g2 2;i3;x0;i1;x2;", 5);
    for (int cell = 0; cell < 4; cell++) {
      fault("no cell is left", "g2 2;i3;x0;i1;x2;i" + cell + ";", 18);
      fault("no cell is left", "g2 2;i3;x0;i1;x2;x" + cell + ";", 18);
    }
  }

  // "a CELL that there is not": the last one and the one behind it, of each sea.
  private static void cellsThereAre() {
    for (String item : new String[] {"i", "x"}) {
      for (int w = 2; w <= 6; w++) {
        for (int h = 2; h <= 5; h++) {
          String sea = "g" + w + " " + h + ";" + item;
          taken("the first cell", sea + "0;", 2);
          taken("the last cell", sea + (w * h - 1) + ";", 2);
          fault("behind the last cell", sea + w * h + ";", 6);
        }
      }
    }
  }

  // "WINDS by HOURS (12 at most)"; "b D .. (WINDS, 1 to 12 of them ..": "a thirteenth WIND" is a FAULT.
  private static void twelveWinds() {
    fault("no wind", "b;", 1);
    fault("no wind, behind others", "b1;b;", 4);
    for (int n = 1; n <= 14; n++) {
      String text = "b" + times("2 ", n) + ";";
      if (n <= 12) taken(n + " winds", text, 1);
      else fault(n + " winds", text, 25);
    }
    WindPost x = Due.of("b" + times("2 ", 12) + ";");
    due.is("twelve winds", x.count(4), 12);
    fault("a thirteenth, and no more", "b" + times("2 ", 12) + "2", 25);
    fault("a thirteenth that is none", "b" + times("2 ", 12) + "5;", 25);
  }

  // "told again: more behind these".
  private static void toldAgain() {
    for (int n = 1; n <= 11; n++) {
      String first = "b" + times("1 ", n) + ";";
      taken(n + " and then to twelve", first + "b" + times("3 ", 12 - n) + ";", 2);
      fault(n + " and then to thirteen", first + "b" + times("3 ", 13 - n) + ";", first.length() + 1 + 2 * (12 - n));
      WindPost x = Due.of(first + "b" + times("3 ", 12 - n) + ";");
      due.is(n + " and more, how many", x.count(4), 12);
      for (int k = 0; k < 12; k++) due.is(n + " and more, hour " + k, x.wind(k), k < n ? 1 : 3);
    }
    String twelve = times("b2;", 12);
    taken("twelve times one", twelve, 12);
    fault("the thirteenth time", twelve + "b2;", 37);
    fault("b without one behind twelve", twelve + "b;", 37);
    taken("other items behind twelve", twelve + "i3;f2;x1;", 15);
  }

  // "each blows to 0 north, 1 east, 2 south, 3 west, or not (4)": 5 is none.
  private static void windsOneByOne() {
    for (int d = 0; d <= 29; d++) {
      if (d <= 4) taken("a wind", "b" + d + ";", 1);
      else fault("a wind", "b" + d + ";", 1);
      if (d <= 4) taken("a second wind", "b0 " + d + ";", 1);
      else fault("a second wind", "b0 " + d + ";", 3);
      if (d <= 4) due.is("it is that one", Due.of("b" + d + ";").wind(0), d);
    }
  }

  // "HOUR k has the one that is what is left over of k by how many there are"; "(0 .. 400)".
  private static void leftOver() {
    int[] winds = {3, 1, 4, 0, 2, 2, 0, 1, 3, 4, 1, 0};
    for (int n = 1; n <= 12; n++) {
      StringBuilder text = new StringBuilder("b");
      for (int k = 0; k < n; k++) text.append(winds[k]).append(' ');
      WindPost x = Due.of(text.append(';').toString());
      for (int k = 0; k <= 400; k += n < 12 ? 7 : 1) due.is(n + " winds, " + k, x.wind(k), winds[k % n]);
      due.is(n + " winds, the last hour told", x.wind(n - 1), winds[n - 1]);
      due.is(n + " winds, round", x.wind(n), winds[0]);
      due.is(n + " winds, the 400th", x.wind(400), winds[400 % n]);
      due.is(n + " winds, the 401st", x.wind(401), BAD);
      Due.hours(x, n - 1);
      due.is(n + " winds, from the last hour told", x.wind(0), winds[n - 1]);
      due.is(n + " winds, round from there", x.wind(1), winds[0]);
      x.hour();
      due.is(n + " winds, from behind it", x.wind(0), winds[0]);
      due.is(n + " winds, the 400th from there", x.wind(400), winds[400 % n]);
    }
    due.edges("wind(k)", 0, 400, BAD, Due::rich, WindPost::wind);
    due.edges("wind(k) of a new object", 0, 400, BAD, WindPost::new, WindPost::wind);
  }

  // "(none told: no wind ever)".
  private static void noneTold() {
    WindPost x = Due.of("i0;i1;f6;");
    x.lets(0, 1, 1);
    for (int k = 0; k <= 400; k += 50) due.is("none told, " + k, x.wind(k), 4);
    Due.hours(x, 20);
    due.is("none told, twenty hours on", x.wind(0), 4);
    due.is("none told, it stays", x.letter(0, 3), 0);
    due.is("none told", x.count(4), 0);
  }

  // "FORCE (1 .. 6; 3 at first)".
  private static void force() {
    for (int n = 0; n <= 29; n++) {
      WindPost x = new WindPost();
      boolean stands = n >= 1 && n <= 6;
      due.is("f" + n + ";", Due.tell(x, "f" + n + ";"), stands ? 1 : -11);
      due.is("force told by " + n, x.count(5), stands ? n : 3);
    }
    WindPost x = Due.of("g6 2;i0;i11;b1;");
    for (int weight = 1; weight <= 3; weight++) x.lets(0, 1, weight);
    x.hour();
    for (int l = 0; l < 3; l++) due.is("force 3 at first, weight " + (l + 1), x.letter(l, 3), 2 - l);
    Due.tell(x, "f6;");
    Due.tell(x, "b1;");
    due.is("3 again, read anew", x.count(5), 3);
  }

  // "f N (FORCE; once at most)": "f again" is a FAULT.
  private static void forceOnce() {
    fault("f again", "f3;f3;", 3);
    fault("f again, and no more", "f3;f", 3);
    fault("f again, behind others", "f1;i2;x3;b1; f6;", 13);
    taken("f once, the last", "g2 2;i0;b1;f6;", 4);
    taken("f once, the first", "f6;i0;b1;", 3);
  }

  // "(200 letters at most)", "FULL".
  private static void twoHundredLetters() {
    String most = times(" ", 196) + "f6; ";
    WindPost x = new WindPost();
    for (int n = 1; n <= 200; n++) due.is("letter " + n, x.type(most.charAt(n - 1)), n);
    due.is("letter 201", x.type(' '), FULL);
    due.is("letter 201 again", x.type(0), FULL);
    due.is("letters", x.count(6), 200);
    due.is("they are read", x.sea(), 1);
    due.is("none is left", x.count(6), 0);
    due.is("there is room again", x.type(' '), 1);
    due.refused("letter 201", () -> ofText(most), y -> y.type('4'), FULL);
    due.refused("BAD ahead of FULL, 256", () -> ofText(most), y -> y.type(256), BAD);
    due.refused("BAD ahead of FULL, -1", () -> ofText(most), y -> y.type(-1), BAD);
    WindPost y = ofText(most);
    due.is("clear() of 200", y.clear(), 200);
    due.is("room behind clear()", y.type(' '), 1);
    fault("200 letters, the last one wrong", times(" ", 199) + "?", 199);
    fault("200 letters, ended too early", times(" ", 199) + "b", 200);
  }

  private static WindPost ofText(String text) {
    WindPost x = new WindPost();
    Due.type(x, text);
    return x;
  }

  // "A letter (0 .. 255) comes to THE TEXT: how many it has. BAD".
  private static void lettersTaken() {
    due.edges("type", 0, 255, BAD, Due::rich, WindPost::type);
    due.edges("type, an empty text", 0, 255, BAD, WindPost::new, WindPost::type);
    WindPost x = new WindPost();
    for (int sign = 0; sign <= 255; sign++) {
      due.is("type(" + sign + ")", x.type(sign), sign % 100 + 1);
      if (sign % 100 == 99) x.clear();
    }
  }

  // "blanks (32) between TOKENS": none, one or many; no other sign is one.
  private static void blanks() {
    taken("as few as can be", "g2 2;i0;b1 2;", 3);
    taken("one between all", "g 2 2 ; i 0 ; b 1 2 ;", 3);
    taken("many", "  g  2   2 ;  i   0  ;b  1  2  ;   ", 3);
    fault("a number broken in two", "i1 5;", 3);
    fault("a wind more", "b1 5;", 3);
    taken("two winds", "b1 0;", 1);
    for (int sign : new int[] {0, 9, 10, 11, 12, 13, 31, 33, 95, 133, 160, 255}) {
      fault("sign " + sign + " is no blank", "i3;" + (char) sign, 3);
      fault("sign " + sign + " is no blank", "g2" + (char) sign + "2;", 2);
    }
  }

  // "TOKENS are the letters g, i, x, b, f, NUMBERS and ;": each sign as the first one.
  private static void signsAtFirst() {
    for (int sign = 0; sign <= 255; sign++) {
      String text = "" + (char) sign;
      int want = -10;
      if (sign == ' ') want = 0;
      if ("gixbf".indexOf(sign) >= 0) want = -11;
      due.is("sign " + sign + " alone", answer(text), want);
    }
  }

  // "FAULT: .. of any other letter, .. that TOKEN's": each sign in four other places.
  private static void signsBehindOthers() {
    for (int sign = 0; sign <= 255; sign++) {
      String s = "" + (char) sign;
      boolean digit = sign >= '0' && sign <= '9';
      boolean blank = sign == ' ', end = sign == ';', letter = "gixbf".indexOf(sign) >= 0;
      due.is("i and sign " + sign, answer("i" + s), digit || blank ? -12 : -11);
      due.is("i3 and sign " + sign, answer("i3" + s), end ? 1 : blank ? -13 : digit ? -11 : -12);
      due.is("i3; and sign " + sign, answer("i3;" + s), blank ? 1 : letter && sign != 'g' ? -14 : -13);
      due.is("b1 and sign " + sign, answer("b1" + s), end ? 1 : blank ? -13 : digit ? -11 : -12);
      boolean wind = sign >= '0' && sign <= '4';
      due.is("b1, a blank and sign " + sign, answer("b1 " + s), end ? 1 : blank || wind ? -14 : -13);
      boolean cell = sign >= '2' && sign <= '6';
      due.is("g and sign " + sign, answer("g" + s), blank || cell ? -12 : -11);
    }
  }

  // "g W H (the sea; the first of all, if it is told)": "g behind another ITEM" is a FAULT.
  private static void seaFirstOfAll() {
    for (String item : new String[] {"g3 3;", "i0;", "x0;", "b1;", "f3;"}) {
      fault("g behind another item", item + "g2 2;", item.length());
      fault("g behind another item, and no more", item + " g", item.length() + 1);
      taken("that item alone", item, 1);
      if (item.charAt(0) != 'g') taken("g ahead of it", "g2 2;" + item, 2);
    }
  }

  // "a NUMBER above 29 or with a 0 ahead of others": the place of its first letter.
  private static void numbers() {
    taken("29", "g6 5;i29;", 2);
    fault("30", "g6 5;i30;", 6);
    taken("0 alone", "i0;", 1);
    taken("10", "i10;", 1);
    for (String n : new String[] {"00", "01", "05", "015", "000", "0000000000"}) fault("a 0 ahead", " i" + n + ";", 2);
    String[] far = {"99", "100", "256", "2147483647", "2147483648", "4294967295", "4294967296", "4294967297",
        "18446744073709551615", "18446744073709551616", "18446744073709551617", "1" + times("0", 150)};
    for (String n : far) {
      fault("far above 29", "i" + n + ";", 1);
      fault("far above 29", "f3;b0 " + n + ";", 6);
      fault("far above 29", "g" + n + " 2;", 1);
      fault("far above 29, where none can stand", "i3;" + n, 3);
    }
    for (int n = 30; n <= 99; n++) fault("above 29", "i" + n + ";", 1);
    fault("where ; is due", "i3 30;", 3);
    fault("where an item is due", "29;", 0);
  }

  // "FAULT: the place of the first letter of the first TOKEN that can't stand there".
  private static void firstWrongToken() {
    fault("the first of two", "i16;?", 1);
    fault("a wrong cell ahead of a wrong letter", "i3;x3;?", 4);
    fault("g ahead of a wrong number", "i3;g30 30;", 3);
    fault("f again ahead of a wrong number", "f3;f7;", 3);
    fault("the seventh i ahead of its cell", "i0;i1;i2;i3;i4;i5;i99;", 18);
    fault("the seventh x ahead of its cell", "x0;x1;x2;x3;x4;x5;x0;", 18);
    fault("; ahead of the end", "g2 2 ", 5);
    fault("the h, not the w", "g6 6;", 3);
    fault("h of two letters", "g6 12;", 3);
    fault("a letter where a number is due", "g6 i5;", 3);
    fault("a number where ; is due", "f3 4;", 3);
    fault("; where a number is due", "x;", 1);
    fault("; where an item is due", "x3;;", 3);
    fault("the first letter of all", "?g6 5;", 0);
  }

  // "the text's length, if it ends too early": each beginning of a text, blanks behind it as well.
  private static void endsTooEarly() {
    String text = "g6 5;i29;x28;b0 4;f6;";
    int[] ends = {0, 5, 9, 13, 18, 21};
    for (int length = 0; length <= text.length(); length++) {
      int items = -1;
      for (int n = 0; n < ends.length; n++) if (ends[n] == length) items = n;
      for (int more = 0; more < 3; more++) {
        String told = text.substring(0, length) + times(" ", more);
        due.is("the beginning \"" + told + "\"", answer(told), items >= 0 ? items : -10 - length - more);
      }
    }
  }

  // "how many ITEMS": none to as many as there is room for.
  private static void itemsCounted() {
    taken("none", "", 0);
    taken("one", "f1;", 1);
    String all = "g6 5;i0;i1;i2;i3;i4;i5;x6;x7;x8;x9;x10;x11;f6;" + times("b0;", 12);
    taken("all that can be", all, 26);
    for (String more : new String[] {"g6 5;", "i12;", "x12;", "f6;", "b0;"}) {
      fault("one more of them", all + more, all.length() + (more.charAt(0) == 'b' ? 1 : 0));
    }
  }

  // "and is empty then": behind one that stands, not behind a FAULT.
  private static void emptyThen() {
    WindPost x = ofText("g6 5;i7;");
    due.is("it stands", x.sea(), 2);
    due.is("empty", x.count(6), 0);
    due.is("an empty text tells the first sea", x.sea(), 0);
    due.is("that has no isles", x.count(2), 0);
    Due.type(x, "i7");
    due.is("a fault", x.sea(), -12);
    due.is("its letters are there", x.count(6), 2);
    due.is("and once more", x.sea(), -12);
    x.type(';');
    due.is("and go on", x.sea(), 1);
    due.is("empty behind them", x.clear(), 0);
  }

  // "-10 less FAULT: nothing changes": each kind of FAULT, on an object with something in each place.
  private static void faultChangesNothing() {
    String[] texts = {"g2 2;i0;i1;x2;b3 3 3;f6;g", "g7 5;", "g6 6;", "g6 5", "i16;", "i0;i0;", "x0;x0;", "i0;x0;", "b5;", "b;",
        "b1;b0 0 0 0 0 0 0 0 0 0 0 0;", "f0;", "f7;", "f6;f5;", "i0;i1;i2;i3;i4;i5;i6;", "x0;x1;x2;x3;x4;x5;x6;",
        "g6 5;i7;i8;f1;b2 2;?", ";", "3", "i", "i03;", "g2 2;f1;i30;"};
    for (String text : texts) {
      WindPost asked = richWith(text);
      int answer = asked.sea();
      due.is("a fault of \"" + text + "\"", answer <= -10 ? 1 : 0, 1);
      due.is("again of \"" + text + "\"", asked.sea(), answer);
      due.alike("a fault of \"" + text + "\" changes nothing", Due.all(asked), Due.all(richWith(text)));
    }
  }

  private static WindPost richWith(String text) {
    WindPost x = Due.rich();
    x.clear();
    Due.type(x, text);
    return x;
  }

  // "(Read anew: as told, no LETTERS, no NETS, IMAGES are gone.)": just as a new object that is told it.
  private static void anew() {
    for (String text : new String[] {"", "i0;i1;", "g6 5;i29;x28;b4 1;f6;", "g2 2;"}) {
      WindPost x = richWith(text);
      WindPost y = ofText(text);
      due.is("anew: \"" + text + "\"", x.sea(), y.sea());
      due.is("anew: THE HOUR", x.now(0), 0);
      due.is("anew: no letters", x.now(1), 0);
      due.is("anew: none up", x.now(2), 0);
      due.is("anew: no nets", x.now(3), 0);
      due.is("anew: none to be undone", x.now(4), 0);
      due.is("anew: undo()", x.undo(), WindPost.STATE);
      due.is("anew: image 0 is gone", x.back(0), WindPost.STATE);
      due.is("anew: image 1 is gone", x.back(1), WindPost.STATE);
      due.alike("anew: \"" + text + "\"", Due.state(x).replaceAll("\\d+$", ""), Due.state(y).replaceAll("\\d+$", ""));
    }
  }

  // "clear(): THE TEXT is empty: how many letters it had".
  private static void cleared() {
    WindPost x = new WindPost();
    due.is("clear() of none", x.clear(), 0);
    x.type('i');
    due.is("clear() of one", x.clear(), 1);
    due.is("clear() again", x.clear(), 0);
    due.is("nothing is read", x.sea(), 0);
    WindPost y = Due.rich();
    due.is("clear() of some", y.clear(), 9);
    due.alike("clear() changes the text alone", Due.all(y), Due.all(richWith("")));
  }

  // "As told; no ISLES": a new object, in which there is no isle, letter, wind, hill.
  private static void newObject() {
    for (int i = 0; i < 7; i++) {
      int a = i;
      due.refused("isle(" + i + ", 0), new", WindPost::new, x -> x.isle(a, 0), BAD);
      due.refused("isle(" + i + ", 1), new", WindPost::new, x -> x.isle(a, 1), BAD);
      due.refused("letter(" + i + ", 0), new", WindPost::new, x -> x.letter(a, 0), BAD);
      due.refused("turn(" + i + ", 1), new", WindPost::new, x -> x.turn(a, 1), BAD);
      due.refused("net(" + i + ", 1), new", WindPost::new, x -> x.net(a, 1), BAD);
      due.refused("lets(" + i + ", 1, 1), new", WindPost::new, x -> x.lets(a, 1, 1), BAD);
    }
    WindPost x = new WindPost();
    due.is("an hour of a new object", x.hour(), 0);
    due.is("it is hour 1", x.now(0), 1);
    due.is("as an empty text", Due.state(new WindPost()).equals(Due.state(Due.of(""))) ? 1 : 0, 1);
  }

  // Promises 5, 6, 31 and 9: "BAD".
  private static void askedOfTheSea() {
    due.edges("isle(i, 0)", 0, 2, BAD, Due::rich, (x, a) -> x.isle(a, 0));
    due.edges("isle(i, 1)", 0, 2, BAD, Due::rich, (x, a) -> x.isle(a, 1));
    due.edges("isle(0, what)", 0, 1, BAD, Due::rich, (x, a) -> x.isle(0, a));
    due.edges("isle(2, what)", 0, 1, BAD, Due::rich, (x, a) -> x.isle(2, a));
    due.edges("cell(c)", 0, 5, BAD, Due::rich, WindPost::cell);
    due.edges("cell(c), new", 0, 15, BAD, WindPost::new, WindPost::cell);
    due.edges("cell(c), the largest", 0, 29, BAD, () -> Due.of("g6 5;i29;i28;x0;"), WindPost::cell);
    due.edges("count(what)", 0, 6, BAD, Due::rich, WindPost::count);
    due.edges("now(what)", 0, 4, BAD, Due::rich, WindPost::now);
    String isles = "i15;i0;i14;i1;i13;i2;";
    int[] cells = {15, 0, 14, 1, 13, 2};
    for (int n = 0, length = 0; n <= 6; n++) {
      WindPost x = Due.of(isles.substring(0, length));
      due.is(n + " isles", x.count(2), n);
      for (int i = 0; i < 8; i++) due.is("isle " + i + " of " + n, x.isle(i, 0), i < n ? cells[i] : BAD);
      length += n % 2 == 0 && n < 5 ? 4 : 3;
    }
  }

  // Promise 8: "BAD"; of none to five letters.
  private static void askedOfLetters() {
    due.edges("letter(l, 0)", 0, 2, BAD, Due::rich, (x, a) -> x.letter(a, 0));
    due.edges("letter(l, 5)", 0, 2, BAD, Due::rich, (x, a) -> x.letter(a, 5));
    due.edges("letter(0, what)", 0, 5, BAD, Due::rich, (x, a) -> x.letter(0, a));
    due.edges("letter(2, what)", 0, 5, BAD, Due::rich, (x, a) -> x.letter(2, a));
    WindPost x = Due.of("i0;i1;b1;");
    for (int n = 0; n <= 5; n++) {
      due.is(n + " letters", x.now(1), n);
      for (int l = 0; l < 7; l++) due.is("letter " + l + " of " + n, x.letter(l, 0), l < n ? 5 - l : BAD);
      x.lets(0, 1, Math.max(1, 5 - n));
    }
  }
}
