/** Promises 25 to 27: knees, drifts, odds. */
public final class OddsTest {
  private static final Due due = new Due("OddsTest");
  private static final int BAD = WindPost.BAD, NO = WindPost.NO;

  public static void main(String[] args) {
    knee();
    kneeAheadOfHourNull();
    drift();
    odds();
    oddsOfManyWays();
    wrong();
    due.end();
  }

  private static void knee() {
    // East at 0, 3; north at 1; calm at 2, 4.
    WindPost x = Due.of("b1 0 4 1 4;");
    due.is("25: five ahead is the same", x.knee(5, 12), 12);
    due.is("25: ten ahead is the same", x.knee(10, 7), 7);
    // wind(j - 2): 1 4 1 0 4 for j = 0 .. 4, and it has 1 0 4 1 4.
    due.is("25: knee(2, 1)", x.knee(2, 1), 1);
    due.is("25: knee(2, 4)", x.knee(2, 4), 1);
    due.is("25: knee(2, 5)", x.knee(2, 5), 2);
    due.is("25: knee(2, 6)", x.knee(2, 6), 3);
    due.is("25: twelve, as two", x.knee(12, 5), 2);
    x.hour();
    due.is("25: an hour on", x.knee(2, 4), 1);
    due.is("25: an hour on, five", x.knee(2, 5), 2);
    x.turn(1, 1);
    // wind(j) is 1 1 4 1 4; from 1 on 1 4 1 4 1, two ahead 4 1 1 4 1.
    due.is("25: turned", x.knee(2, 5), 3);
    due.is("25: none told", Due.of("i0;").knee(7, 12), 12);
  }

  private static void kneeAheadOfHourNull() {
    // Just the hour ahead of hour 0 (the last told) is east, as hour 0 is.
    WindPost x = Due.of("b1 2 3 0 1;");
    due.is("25: ahead of hour 0", x.knee(1, 1), 1);
    due.is("25: not the hour behind", x.knee(4, 1), 0);
    due.is("25: twelve ahead", x.knee(12, 1), 0);
    due.is("25: eleven ahead", x.knee(11, 1), 1);
  }

  private static void drift() {
    WindPost x = Due.of("g6 5;i0;i7;x1;b1 1 0 2 2 2 4 3;f4;");
    due.is("26: east by 1", x.drift(1, 0), 3);
    due.is("26: south by 1", x.drift(1, 1), 6);
    due.is("26: east by 3", x.drift(3, 0), 1);
    due.is("26: south by 3", x.drift(3, 1), 2);
    due.is("26: too heavy", x.drift(4, 1), 0);
    due.is("26: far too heavy", x.drift(5, 1), 0);
    x.turn(1, 3);
    x.turn(3, 0);
    due.is("26: west", x.drift(1, 0), -3);
    due.is("26: south less north", x.drift(1, 1), 0);
    x.turn(4, 0);
    due.is("26: north", x.drift(2, 1), -4);
    due.is("26: none told", Due.of("").drift(1, 0), 0);
    int[][] wrong = {{0, 0}, {6, 0}, {-1, 0}, {1, 2}, {1, -1}, {Integer.MAX_VALUE, 0}, {1, Integer.MIN_VALUE}};
    for (int[] w : wrong) due.is("26: drift(" + w[0] + ", " + w[1] + ")", x.drift(w[0], w[1]), NO);
  }

  private static void fraction(String told, WindPost x, int p, int n, int upper, int lower) {
    due.is("27: " + told + ", " + p + " of 10, " + n + " hours, upper", x.odds(0, p, n, 0), upper);
    due.is("27: " + told + ", " + p + " of 10, " + n + " hours, lower", x.odds(0, p, n, 1), lower);
  }

  private static void odds() {
    WindPost x = Due.of("g6 2;i0;i1;i2;b1;f2;");
    x.lets(0, 1, 1);
    fraction("next to it", x, 5, 0, 0, 1);
    fraction("next to it", x, 5, 1, 1, 2);
    fraction("next to it", x, 5, 2, 3, 4);
    fraction("next to it", x, 3, 1, 7, 10);
    fraction("next to it", x, 3, 2, 91, 100);
    fraction("next to it", x, 3, 6, 999271, 1000000);
    fraction("next to it", x, 0, 1, 1, 1);
    fraction("next to it", x, 0, 6, 1, 1);
    fraction("next to it", x, 10, 6, 0, 1);
    fraction("next to it", x, 9, 1, 1, 10);
    x.hour();
    fraction("it has arrived", x, 7, 0, 1, 1);
    fraction("it has arrived", x, 7, 6, 1, 1);
    fraction("it has arrived", x, 10, 3, 1, 1);
  }

  private static void oddsOfManyWays() {
    // Two hours east of three must not be calm: 3 of 0.64 .. by p = 2: 0.512 + 3 * 0.128 = 0.896.
    WindPost x = Due.of("g6 2;i0;i2;b1;f2;");
    x.lets(0, 1, 1);
    fraction("two off", x, 2, 3, 112, 125);
    fraction("two off", x, 2, 1, 0, 1);
    fraction("two off", x, 2, 2, 16, 25);
    // The wind is that of its hour, calm or not: east at 0 and 2, west at 1.
    WindPost y = Due.of("g6 2;i0;i2;b1 3 1;f2;");
    y.lets(0, 1, 1);
    fraction("against it", y, 5, 3, 1, 8);
    fraction("against it", y, 0, 3, 0, 1);
    y.hour();
    fraction("an hour on", y, 5, 2, 1, 4);
    WindPost z = Due.of("g6 2;i0;i1;i2;b1;f2;");
    z.lets(0, 2, 1);
    z.net(1, 1);
    fraction("a net between", z, 5, 6, 0, 1);
    z.hour();
    z.net(1, 0);
    fraction("it is caught", z, 5, 6, 0, 1);
    WindPost own = Due.of("g6 2;i0;i1;b1;f2;");
    own.lets(0, 1, 1);
    own.net(0, 1);
    fraction("calm at a net", own, 5, 2, 3, 4);
  }

  private static void wrong() {
    WindPost x = Due.of("g6 2;i0;i1;i2;b1;f2;");
    x.lets(0, 1, 1);
    String before = Due.state(x);
    int[][] knees = {{0, 1}, {13, 1}, {-1, 1}, {1, 0}, {1, 13}, {1, -1}, {Integer.MAX_VALUE, 1},
        {1, Integer.MIN_VALUE}};
    for (int[] w : knees) due.is("25: knee(" + w[0] + ", " + w[1] + ")", x.knee(w[0], w[1]), BAD);
    int[][] odds = {{1, 0, 0, 0}, {-1, 0, 0, 0}, {0, -1, 0, 0}, {0, 11, 0, 0}, {0, 0, -1, 0}, {0, 0, 7, 0},
        {0, 0, 0, 2}, {0, 0, 0, -1}, {Integer.MIN_VALUE, 0, 0, 0}, {0, 0, Integer.MAX_VALUE, 0}};
    for (int[] w : odds) {
      due.is("27: odds(" + w[0] + ", " + w[1] + ", " + w[2] + ", " + w[3] + ")",
          x.odds(w[0], w[1], w[2], w[3]), BAD);
    }
    x.knee(1, 1);
    x.drift(1, 0);
    x.odds(0, 5, 6, 0);
    due.alike("25 to 27: nothing changes", Due.state(x), before);
  }
}
