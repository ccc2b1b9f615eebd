import java.util.Map;
import java.util.TreeMap;

/** All promises: long runs of calls, each answer next to that of PlainSea. */
public final class PlainSeaTest {
  private static final String[] CALLS = {"type", "clear", "sea", "isle", "cell", "wind", "letter", "now", "lets",
      "hour", "net", "turn", "undo", "where", "comes", "blots", "loop", "tangled", "soonest", "lightest", "words",
      "nets", "who", "knee", "drift", "odds", "rate", "keep", "back", "count", "trace"};
  private static final int[] ARGS = {1, 0, 0, 2, 1, 1, 2, 1, 3, 0, 2, 2, 0, 2, 1, 2, 1, 2, 4, 3, 1, 3, 3, 2, 2, 4, 2,
      1, 1, 1, 0};
  /** How often each is asked among the calls behind a text. */
  private static final int[] SHARE = {1, 0, 1, 2, 2, 2, 4, 3, 9, 12, 6, 3, 4, 6, 6, 6, 5, 6, 6, 6, 2, 5, 6, 5, 4, 4, 6,
      2, 2, 2, 3};

  private static final Due due = new Due("PlainSeaTest");
  private static final Map<String, Integer> answers = new TreeMap<>();
  private static long seed = 20261118L;

  public static void main(String[] args) {
    int runs = args.length > 0 ? Integer.parseInt(args[0]) : 600;
    if (args.length > 1) seed = Long.parseLong(args[1]);
    for (int run = 0; run < runs; run++) run(run);
    // A test that comes upon one answer alone would find nothing.
    for (String call : CALLS) {
      long kinds = answers.keySet().stream().filter(key -> key.startsWith(call + " ")).count();
      if (kinds < 2) due.is("unlike answers of " + call, kinds, 2);
    }
    due.end();
  }

  /** One of 0 .. n - 1, the same in every run of the test. */
  private static int some(int n) {
    seed = seed * 6364136223846793005L + 1442695040888963407L;
    return (int) ((seed >>> 33) % n);
  }

  private static void run(int run) {
    WindPost x = new WindPost();
    PlainSea plain = new PlainSea();
    StringBuilder told = new StringBuilder();
    int calls = 0;
    for (int texts = 0; texts < 3 && calls < 300; texts++) {
      String text = some(3) == 0 ? spoilt(text()) : text();
      told.append('[').append(text).append("] ");
      for (int i = 0; i < text.length(); i++, calls++) ask(run, told, x, plain, "type", new int[] {text.charAt(i)});
      if (ask(run, told, x, plain, "sea", new int[0]) < 0) {
        for (int n = 0; n < 5; n++, calls++) lookAround(run, told, x, plain);
        ask(run, told, x, plain, "clear", new int[0]);
      }
      calls += 2;
      for (int n = 0; n < 150 && calls < 500; n++, calls++) lookAround(run, told, x, plain);
    }
  }

  private static void lookAround(int run, StringBuilder told, WindPost x, PlainSea plain) {
    int all = 0;
    for (int share : SHARE) all += share;
    int left = some(all), call = 0;
    while (left >= SHARE[call]) left -= SHARE[call++];
    int[] a = new int[ARGS[call]];
    for (int i = 0; i < a.length; i++) a[i] = number(CALLS[call], i);
    ask(run, told, x, plain, CALLS[call], a);
  }

  private static int number(String call, int i) {
    if (some(60) == 0) return some(2) == 0 ? Integer.MIN_VALUE + some(3) : Integer.MAX_VALUE - some(3);
    switch (call) {
      case "type": return some(300) - 20;
      case "cell": return some(33) - 1;
      case "wind": return some(404) - 1;
      case "who": return i == 2 ? some(66) - 1 : some(6);
      case "where": case "blots": return i == 1 ? some(63) - 1 : some(6) - (some(8) == 0 ? 1 : 0);
      case "lightest": return i == 2 ? some(63) : some(6);
      case "knee": return some(14);
      case "odds": return i == 1 ? some(12) : i == 2 ? some(8) : i == 3 ? some(2) : some(5);
      case "turn": return i == 0 ? some(12) : some(6);
      case "keep": case "back": return some(3);
      case "net": return i == 1 ? some(5) / 2 : some(6);
      case "now": case "count": return some(8);
      case "letter": return some(7) - 1;
      default: return some(8) == 0 ? some(9) - 2 : some(5);
    }
  }

  private static String text() {
    StringBuilder text = new StringBuilder();
    int w = 4, h = 4;
    if (some(5) > 0) {
      w = 2 + some(5);
      h = 2 + some(4);
      text.append('g').append(w).append(' ').append(h).append(';');
    }
    boolean[] taken = new boolean[30];
    int isles = some(12) == 0 ? some(2) : 2 + some(5), hills = some(4), winds = 0;
    for (int n = 0; n < isles + hills; n++) {
      int c = some(w * h);
      if (taken[c]) continue;
      taken[c] = true;
      text.append(n < isles ? 'i' : 'x').append(c).append(';');
    }
    for (int items = some(3); items > 0; items--) {
      text.append('b');
      for (int n = 1 + some(6); n > 0 && winds < 12; n--, winds++) text.append(some(6) == 0 ? 4 : some(4)).append(' ');
      if (text.charAt(text.length() - 1) == 'b') text.setLength(text.length() - 1);
      else text.append(';');
    }
    if (some(4) > 0) text.append('f').append(1 + some(6)).append(';');
    return text.toString();
  }

  private static String spoilt(String text) {
    String letters = "gixbf;; 0123456789?i0;";
    StringBuilder spoilt = new StringBuilder(text);
    for (int n = some(3); n >= 0 && spoilt.length() > 0; n--) {
      int at = some(spoilt.length());
      char c = letters.charAt(some(letters.length()));
      if (some(3) == 0) spoilt.deleteCharAt(at);
      else if (some(2) == 0) spoilt.insert(at, c);
      else spoilt.setCharAt(at, c);
    }
    return spoilt.toString();
  }

  private static long ask(int run, StringBuilder told, WindPost x, PlainSea plain, String call, int[] a) {
    long got = ask(x, call, a);
    long want = plain.ask(call, a);
    StringBuilder words = new StringBuilder(call).append('(');
    for (int i = 0; i < a.length; i++) words.append(i == 0 ? "" : ", ").append(a[i]);
    words.append(')');
    if (got != want) due.is("run " + run + ": " + told + words, got, want);
    else due.is(call, got, want);
    if (!call.equals("type")) told.append(words).append(' ');
    answers.merge(call + " " + got, 1, Integer::sum);
    return got;
  }

  private static long ask(WindPost x, String call, int[] a) {
    switch (call) {
      case "type": return x.type(a[0]);
      case "clear": return x.clear();
      case "sea": return x.sea();
      case "isle": return x.isle(a[0], a[1]);
      case "cell": return x.cell(a[0]);
      case "wind": return x.wind(a[0]);
      case "letter": return x.letter(a[0], a[1]);
      case "now": return x.now(a[0]);
      case "lets": return x.lets(a[0], a[1], a[2]);
      case "hour": return x.hour();
      case "net": return x.net(a[0], a[1]);
      case "turn": return x.turn(a[0], a[1]);
      case "undo": return x.undo();
      case "where": return x.where(a[0], a[1]);
      case "comes": return x.comes(a[0]);
      case "blots": return x.blots(a[0], a[1]);
      case "loop": return x.loop(a[0]);
      case "tangled": return x.tangled(a[0], a[1]);
      case "soonest": return x.soonest(a[0], a[1], a[2], a[3]);
      case "lightest": return x.lightest(a[0], a[1], a[2]);
      case "words": return x.words(a[0]);
      case "nets": return x.nets(a[0], a[1], a[2]);
      case "who": return x.who(a[0], a[1], a[2]);
      case "knee": return x.knee(a[0], a[1]);
      case "drift": return x.drift(a[0], a[1]);
      case "odds": return x.odds(a[0], a[1], a[2], a[3]);
      case "rate": return x.rate(a[0], a[1]);
      case "keep": return x.keep(a[0]);
      case "back": return x.back(a[0]);
      case "count": return x.count(a[0]);
      case "trace": return x.trace();
      default: throw new IllegalArgumentException(call);
    }
  }
}
