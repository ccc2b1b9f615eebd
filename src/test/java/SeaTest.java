/** Promises 1 to 9 and 31: the text, the sea, and what is asked of it. */
public final class SeaTest {
  private static final Due due = new Due("SeaTest");
  private static final String ISLES = "i0;i1;i2;i3;i4;i5;";
  private static final String HILLS = "x8;x9;x10;x11;x12;x13;";

  public static void main(String[] args) {
    newObject();
    type();
    clear();
    seaThatStands();
    seaWithFault();
    faultChangesNothing();
    seaTellsAnew();
    isle();
    cell();
    wind();
    letter();
    now();
    count();
    due.end();
  }

  private static void newObject() {
    WindPost x = new WindPost();
    int[] counts = {4, 4, 0, 0, 0, 3, 0};
    for (int what = 0; what < 7; what++) due.is("1: count(" + what + ")", x.count(what), counts[what]);
    for (int what = 0; what < 5; what++) due.is("1: now(" + what + ")", x.now(what), 0);
    for (int c = 0; c < 16; c++) due.is("1: cell(" + c + ")", x.cell(c), WindPost.NONE);
    due.is("1: cell(16)", x.cell(16), WindPost.BAD);
    due.is("1: isle(0, 0)", x.isle(0, 0), WindPost.BAD);
    due.is("1: letter(0, 0)", x.letter(0, 0), WindPost.BAD);
    due.is("1: wind(0)", x.wind(0), 4);
    due.is("1: wind(400)", x.wind(400), 4);
    due.is("1: undo()", x.undo(), WindPost.STATE);
    due.is("1: back(0)", x.back(0), WindPost.STATE);
    due.is("1: back(1)", x.back(1), WindPost.STATE);
    due.is("1: clear()", x.clear(), 0);
    due.is("1: trace()", x.trace(), 0);
    due.is("1: words(0)", x.words(0), WindPost.BAD);
    due.is("1: lets(0, 1, 1)", x.lets(0, 1, 1), WindPost.BAD);
  }

  private static void type() {
    WindPost x = new WindPost();
    due.is("2: type(-1)", x.type(-1), WindPost.BAD);
    due.is("2: type(256)", x.type(256), WindPost.BAD);
    due.is("2: type(least)", x.type(Integer.MIN_VALUE), WindPost.BAD);
    due.is("2: none came", x.count(6), 0);
    due.is("2: type(0)", x.type(0), 1);
    due.is("2: type(255)", x.type(255), 2);
    for (int n = 3; n <= 200; n++) due.is("2: letter " + n, x.type(' '), n);
    due.is("2: letter 201", x.type(' '), WindPost.FULL);
    due.is("2: type(256), full", x.type(256), WindPost.BAD);
    due.is("2: type(-1), full", x.type(-1), WindPost.BAD);
    due.is("2: count(6)", x.count(6), 200);
    due.is("2: clear()", x.clear(), 200);
    due.is("2: type behind clear()", x.type(' '), 1);
  }

  private static void clear() {
    WindPost x = Due.of("g3 2;i0;i1;b1;");
    x.lets(0, 1, 1);
    Due.type(x, "f2;");
    due.is("3: clear()", x.clear(), 3);
    due.is("3: clear() again", x.clear(), 0);
    due.is("3: the text is empty", x.count(6), 0);
    due.is("3: the sea stays", x.count(0), 3);
    due.is("3: the letters stay", x.now(1), 1);
    due.is("3: what may be undone stays", x.now(4), 1);
    due.is("3: an empty text then", x.sea(), 0);
    due.is("3: force is not told", x.count(5), 3);
  }

  private static void stands(String text, int items) {
    WindPost x = new WindPost();
    due.is("4: sea() of \"" + text + "\"", Due.tell(x, text), items);
    due.is("4: the text of \"" + text + "\" is empty", x.count(6), 0);
  }

  private static void seaThatStands() {
    stands("", 0);
    stands("    ", 0);
    stands("g2 2;", 1);
    stands("g6 5;", 1);
    stands(" g 6  5 ; ", 1);
    stands("f1;", 1);
    stands("f6;", 1);
    stands("b4;", 1);
    stands("b0 1 2 3 4;b0;", 2);
    stands("b0 0 0 0 0 0 0 0 0 0 0 0;", 1);
    stands("b0 0 0 0 0 0;b0 0 0 0 0 0;", 2);
    stands("i15;", 1);
    stands("g6 5;i29;x28;", 3);
    stands(ISLES + HILLS, 12);
    stands("f2;b1;x3;i4;b2;i5;", 6);
    stands("x15;", 1);
    stands("g3 3;x8;i0;", 3);
    WindPost x = Due.of("g5 3;i14;i0;x7;x1;b3 0;f5;b2 4 1;");
    int[] counts = {5, 3, 2, 2, 5, 5, 0};
    for (int what = 0; what < 7; what++) due.is("4: count(" + what + ")", x.count(what), counts[what]);
    int[] winds = {3, 0, 2, 4, 1, 3};
    for (int k = 0; k < 6; k++) due.is("4: wind(" + k + ")", x.wind(k), winds[k]);
    due.is("4: isle(0, 0)", x.isle(0, 0), 14);
    due.is("4: isle(1, 0)", x.isle(1, 0), 0);
    due.is("4: cell(7)", x.cell(7), -5);
  }

  private static void fault(String text, int place) {
    WindPost x = new WindPost();
    due.is("4: sea() of \"" + text + "\"", Due.tell(x, text), -10 - place);
    due.is("4: the text of \"" + text + "\" stays", x.count(6), text.length());
  }

  private static void seaWithFault() {
    seaWithFaultyNumber();
    seaWithFaultyToken();
    seaThatEndsEarly();
  }

  private static void seaWithFaultyNumber() {
    fault("g1 5;", 1);
    fault("g7 5;", 1);
    fault("g6 1;", 3);
    fault("g2 6;", 3);
    fault("g02 2;", 1);
    fault("g2 02;", 3);
    fault("i16;", 1);
    fault("g2 2;i4;", 6);
    fault("x16;", 1);
    fault("g6 5;i30;", 6);
    fault("g6 5;i03;", 6);
    fault("i00;", 1);
    fault("i99999999999999999999;", 1);
    fault("i4294967296;", 1);
    fault("i0;i 4294967297;", 5);
    fault("b5;", 1);
    fault("b12;", 1);
    fault("b0 1 5;", 5);
    fault("f0;", 1);
    fault("f7;", 1);
    fault("f29;", 1);
    fault("f30;", 1);
    fault("30", 0);
    fault("i3;i3;", 4);
    fault("i3;x3;", 4);
    fault("x3;i3;", 4);
    fault("x3;x3;", 4);
    fault("b0 0 0 0 0 0 0 0 0 0 0 0 0;", 25);
    fault("b0 0 0 0 0 0 0 0 0 0 0 0;b0;", 26);
    fault("b0 0 0 0 0 0;b0 0 0 0 0 0 0;", 26);
  }

  private static void seaWithFaultyToken() {
    fault(";", 0);
    fault("4", 0);
    fault("?", 0);
    fault("  ?", 2);
    fault("G2 2;", 0);
    fault("g;", 1);
    fault("g2;", 2);
    fault("g2 2 2;", 5);
    fault("g2 2;g2 2;", 5);
    fault("f1;g2 2;", 3);
    fault("i0;g2 2;", 3);
    fault("i;", 1);
    fault("ii", 1);
    fault("i1 6;", 3);
    fault("i3;;", 3);
    fault("i3x", 2);
    fault("x;", 1);
    fault("b;", 1);
    fault("b 1 i", 4);
    fault("b1;b;", 4);
    fault("b0 0 0 0 0 0 0 0 0 0 0 0;b;", 26);
    fault("f;", 1);
    fault("f3 3;", 3);
    fault("f3;f3;", 3);
    fault(ISLES + "i6;", 18);
    fault(HILLS + "x0;", 22);
    fault("i3;\t", 3);
    fault("i3;" + (char) 0, 3);
    fault("i3;" + (char) 255 + "i3;", 3);
    fault("i-1;", 1);
    fault("f7;?", 1);
    fault("f3?;30", 2);
  }

  private static void seaThatEndsEarly() {
    fault("i", 1);
    fault("i3", 2);
    fault("i3  ", 4);
    fault("g", 1);
    fault("g2", 2);
    fault("g2 ", 3);
    fault("g2 2", 4);
    fault("b", 1);
    fault("b1 2", 4);
    fault("f3", 2);
    fault("x3;f", 4);
    fault("f3;i1", 5);
    String most = " ".repeat(199);
    fault(most + "i", 200);
    fault(most + "4", 199);
    fault(most + ";", 199);
    fault("i3;" + " ".repeat(195) + "i4", 200);
    stands(most + " ", 0);
    stands(" ".repeat(197) + "i3;", 1);
  }

  private static void faultChangesNothing() {
    WindPost x = Due.of("g3 2;i0;i2;x4;b1 2;f2;");
    x.lets(0, 1, 1);
    x.hour();
    x.net(1, 1);
    x.keep(0);
    x.rate(0, 0);
    Due.type(x, "g6 5;i7;x8;b3 3 3;f6;g");
    String before = Due.state(x);
    due.is("4: a fault", x.sea(), -31);
    due.alike("4: nothing changes", Due.state(x), before);
    due.is("4: the image is there", x.back(0), 1);
    due.is("4: its letter is there", x.where(0, 0), 1);
  }

  private static void seaTellsAnew() {
    WindPost x = Due.of("g3 2;i0;i2;x4;b1 2;f2;");
    x.lets(0, 1, 1);
    x.hour();
    x.net(1, 1);
    x.turn(0, 3);
    x.keep(0);
    x.rate(0, 0);
    due.is("4: anew", Due.tell(x, "i5;i6;b0;"), 3);
    int[] counts = {4, 4, 2, 0, 1, 3, 0};
    for (int what = 0; what < 7; what++) due.is("4: anew: count(" + what + ")", x.count(what), counts[what]);
    for (int what = 0; what < 5; what++) due.is("4: anew: now(" + what + ")", x.now(what), 0);
    due.is("4: anew: cell(0)", x.cell(0), WindPost.NONE);
    due.is("4: anew: cell(4)", x.cell(4), WindPost.NONE);
    due.is("4: anew: cell(5)", x.cell(5), 0);
    due.is("4: anew: isle(1, 1)", x.isle(1, 1), 0);
    due.is("4: anew: wind(1)", x.wind(1), 0);
    due.is("4: anew: undo()", x.undo(), WindPost.STATE);
    due.is("4: anew: back(0)", x.back(0), WindPost.STATE);
    due.is("4: anew: letter(0, 0)", x.letter(0, 0), WindPost.BAD);
    due.is("4: anew: the trace stays", x.trace(), 1);
    due.is("4: an empty text tells the first sea", x.sea(), 0);
    due.is("4: no isles", x.count(2), 0);
    due.is("4: no winds", x.count(4), 0);
    due.is("4: hills", Due.tell(x, "x1;x2;"), 2);
    due.is("4: a hill", Due.tell(x, "x3;"), 1);
    due.is("4: just that hill", x.count(3), 1);
    due.is("4: the other ones are gone", x.cell(1), WindPost.NONE);
  }

  private static void isle() {
    WindPost x = Due.of("g3 2;i4;i2;");
    due.is("5: isle(0, 0)", x.isle(0, 0), 4);
    due.is("5: isle(1, 0)", x.isle(1, 0), 2);
    due.is("5: isle(1, 1)", x.isle(1, 1), 0);
    x.net(1, 1);
    due.is("5: isle(1, 1), net", x.isle(1, 1), 1);
    due.is("5: isle(0, 1)", x.isle(0, 1), 0);
    due.is("5: isle(2, 0)", x.isle(2, 0), WindPost.BAD);
    due.is("5: isle(-1, 0)", x.isle(-1, 0), WindPost.BAD);
    due.is("5: isle(0, 2)", x.isle(0, 2), WindPost.BAD);
    due.is("5: isle(0, -1)", x.isle(0, -1), WindPost.BAD);
  }

  private static void cell() {
    WindPost x = Due.of("g3 2;i4;i2;x0;");
    int[] cells = {-5, -9, 1, -9, 0, -9, -1};
    for (int c = 0; c < 7; c++) due.is("6: cell(" + c + ")", x.cell(c), cells[c]);
    due.is("6: cell(-1)", x.cell(-1), WindPost.BAD);
    due.is("6: cell(most)", x.cell(Integer.MAX_VALUE), WindPost.BAD);
    due.is("6: the last of the largest", Due.of("g6 5;").cell(29), WindPost.NONE);
    due.is("6: beyond the largest", Due.of("g6 5;").cell(30), WindPost.BAD);
  }

  private static void wind() {
    WindPost x = Due.of("b3 1 4;");
    int[] winds = {3, 1, 4, 3, 1};
    for (int k = 0; k < 5; k++) due.is("7: wind(" + k + ")", x.wind(k), winds[k]);
    due.is("7: wind(400)", x.wind(400), 1);
    due.is("7: wind(401)", x.wind(401), WindPost.BAD);
    due.is("7: wind(-1)", x.wind(-1), WindPost.BAD);
    x.hour();
    due.is("7: wind(0) behind an hour", x.wind(0), 1);
    due.is("7: wind(400) behind an hour", x.wind(400), 4);
    x.turn(1, 0);
    due.is("7: wind(0), turned", x.wind(0), 0);
    due.is("7: wind(3), turned", x.wind(3), 0);
  }

  private static void letter() {
    WindPost x = Due.of("g4 2;i1;i0;i2;b1;f3;");
    x.lets(1, 2, 2);
    int[] first = {2, 1, 2, 0, 2, 0};
    for (int what = 0; what < 6; what++) due.is("8: letter(0, " + what + ")", x.letter(0, what), first[what]);
    x.hour();
    int[] second = {2, 1, 2, 1, 3, 0};
    for (int what = 0; what < 6; what++) due.is("8: an hour on, " + what, x.letter(0, what), second[what]);
    x.hour();
    int[] third = {2, 1, 2, 2, 7, 1};
    for (int what = 0; what < 6; what++) due.is("8: arrived, " + what, x.letter(0, what), third[what]);
    x.lets(1, 2, 2);
    x.net(0, 1);
    x.hour();
    int[] caught = {2, 1, 2, 1, 2, 2};
    for (int what = 0; what < 6; what++) due.is("8: caught, " + what, x.letter(1, what), caught[what]);
    due.is("8: letter(2, 0)", x.letter(2, 0), WindPost.BAD);
    due.is("8: letter(-1, 0)", x.letter(-1, 0), WindPost.BAD);
    due.is("8: letter(0, 6)", x.letter(0, 6), WindPost.BAD);
    due.is("8: letter(0, -1)", x.letter(0, -1), WindPost.BAD);
  }

  private static void now() {
    WindPost x = Due.of("g4 2;i0;i1;i2;b1;f3;");
    x.lets(0, 1, 2);
    x.lets(0, 2, 2);
    x.lets(0, 2, 3);
    x.net(2, 1);
    x.net(0, 1);
    x.hour();
    int[] due5 = {1, 3, 6, 5, 6};
    for (int what = 0; what < 5; what++) due.is("9: now(" + what + ")", x.now(what), due5[what]);
    due.is("9: now(5)", x.now(5), WindPost.BAD);
    due.is("9: now(-1)", x.now(-1), WindPost.BAD);
    Due.hours(x, 6);
    due.is("9: at most 10 may be undone", x.now(4), 10);
  }

  private static void count() {
    WindPost x = Due.of("g6 3;i0;i1;x9;x8;x7;b1 2 3 4;f4;");
    Due.type(x, "ab");
    int[] counts = {6, 3, 2, 3, 4, 4, 2};
    for (int what = 0; what < 7; what++) due.is("31: count(" + what + ")", x.count(what), counts[what]);
    due.is("31: count(7)", x.count(7), WindPost.BAD);
    due.is("31: count(-1)", x.count(-1), WindPost.BAD);
    x.turn(0, 4);
    due.is("31: winds told, one turned", x.count(4), 4);
  }
}
