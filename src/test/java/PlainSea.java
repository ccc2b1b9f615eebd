import java.util.ArrayDeque;
import java.util.ArrayList;
import java.util.Arrays;
import java.util.Deque;
import java.util.List;
import java.util.TreeSet;

/** The document once more, in the plainest words, with no look at how WindPost does it. */
final class PlainSea {
  private static final int BAD = -1, STATE = -2, FULL = -3, NONE = -9, NO = -1000000;

  private static final class Mail {
    int weight, from, to, x, y;
    TreeSet<Integer> blots = new TreeSet<>();
    String how = "up";

    Mail copy() {
      Mail m = new Mail();
      m.weight = weight;
      m.from = from;
      m.to = to;
      m.x = x;
      m.y = y;
      m.blots.addAll(blots);
      m.how = how;
      return m;
    }
  }

  private static final class Now {
    int hour = 0;
    List<Mail> mails = new ArrayList<>();
    TreeSet<Integer> nets = new TreeSet<>();
    List<Integer> winds = new ArrayList<>();

    Now copy() {
      Now n = new Now();
      n.hour = hour;
      for (Mail m : mails) n.mails.add(m.copy());
      n.nets.addAll(nets);
      n.winds.addAll(winds);
      return n;
    }
  }

  private String text = "";
  private int w = 4, h = 4, force = 3;
  private List<Integer> isles = new ArrayList<>(), hills = new ArrayList<>();
  private Now now = new Now();
  private Deque<Now> done = new ArrayDeque<>();
  private final Now[] images = new Now[2];
  private long trace = 0;

  long ask(String call, int[] a) {
    switch (call) {
      case "type": return type(a[0]);
      case "clear": { int had = text.length(); text = ""; return had; }
      case "sea": return sea();
      case "isle": return !anIsle(a[0]) || a[1] < 0 || a[1] > 1 ? BAD
          : a[1] == 0 ? isles.get(a[0]) : now.nets.contains(a[0]) ? 1 : 0;
      case "cell": return a[0] < 0 || a[0] >= w * h ? BAD
          : isles.contains(a[0]) ? isles.indexOf(a[0]) : hills.contains(a[0]) ? -5 : NONE;
      case "wind": return a[0] < 0 || a[0] > 400 ? BAD : wind(now.hour + a[0]);
      case "letter": return letter(a[0], a[1]);
      case "now": return now(a[0]);
      case "lets": return lets(a[0], a[1], a[2]);
      case "hour": return hour();
      case "net": return net(a[0], a[1]);
      case "turn": return turn(a[0], a[1]);
      case "undo": { if (done.isEmpty()) return STATE; now = done.pop(); return done.size(); }
      case "keep": { if (a[0] < 0 || a[0] > 1) return BAD; images[a[0]] = now.copy(); return now.hour; }
      case "back": return back(a[0]);
      case "count": return count(a[0]);
      case "trace": return trace;
      case "rate": return !aMail(a[1]) || a[0] < 0 || a[0] > 5 ? NO : rate(a[0], a[1]);
      default: return foretell(call, a);
    }
  }

  private long foretell(String call, int[] a) {
    switch (call) {
      case "where": { Mail m = later(a); return m == null ? BAD : m.y * w + m.x; }
      case "blots": { Mail m = later(a); return m == null ? BAD : bits(m.blots); }
      case "comes": return !aMail(a[0]) ? BAD : arrives(now.mails.get(a[0]).copy(), now.hour, now.nets);
      case "loop": return !aMail(a[0]) ? BAD : loop(now.mails.get(a[0]).copy());
      case "tangled": return !aMail(a[0]) || !aMail(a[1]) || a[0] == a[1] ? BAD
          : tangled(now.mails.get(a[0]).copy(), now.mails.get(a[1]).copy());
      case "soonest": return !aWay(a[0], a[1]) || !aWeight(a[2]) || a[3] < 0 || a[3] > 1 ? BAD : soonest(a);
      case "lightest": return !aWay(a[0], a[1]) || a[2] < 1 || a[2] > 60 ? BAD : lightest(a);
      case "words": return !anIsle(a[0]) ? BAD : words(a[0]);
      case "nets": return !aWay(a[0], a[1]) || !aWeight(a[2]) ? BAD : nets(a);
      case "who": return !anIsle(a[0]) || !aWeight(a[1]) || a[2] < 0 || a[2] >= 1 << isles.size() ? BAD : who(a);
      case "knee": return a[0] < 1 || a[0] > 12 || a[1] < 1 || a[1] > 12 ? BAD : knee(a[0], a[1]);
      case "drift": return !aWeight(a[0]) || a[1] < 0 || a[1] > 1 ? NO : drift(a[0], a[1]);
      case "odds": return !aMail(a[0]) || a[1] < 0 || a[1] > 10 || a[2] < 0 || a[2] > 6 || a[3] < 0 || a[3] > 1
          ? BAD : odds(a);
      default: throw new IllegalArgumentException(call);
    }
  }

  private boolean anIsle(int i) { return i >= 0 && i < isles.size(); }

  private boolean aMail(int l) { return l >= 0 && l < now.mails.size(); }

  private boolean aWay(int from, int to) { return anIsle(from) && anIsle(to) && from != to; }

  private static boolean aWeight(int weight) { return weight >= 1 && weight <= 5; }

  private static int bits(Iterable<Integer> all) {
    int sum = 0;
    for (int i : all) sum += 1 << i;
    return sum;
  }

  private int type(int letter) {
    if (letter < 0 || letter > 255) return BAD;
    if (text.length() == 200) return FULL;
    text += (char) letter;
    return text.length();
  }

  // What may stand next is kept in one word, and each token is looked at by it.
  private int sea() {
    int newW = 4, newH = 4, newForce = -1, items = 0, at = 0;
    List<Integer> newIsles = new ArrayList<>(), newHills = new ArrayList<>(), newWinds = new ArrayList<>();
    String may = "item";
    while (at < text.length()) {
      if (text.charAt(at) == ' ') { at++; continue; }
      int end = at + 1;
      boolean digits = "0123456789".indexOf(text.charAt(at)) >= 0;
      while (digits && end < text.length() && "0123456789".indexOf(text.charAt(end)) >= 0) end++;
      String token = text.substring(at, end);
      int number = digits && token.length() < 3 && (token.length() == 1 || token.charAt(0) != '0')
          ? Integer.parseInt(token) : -1;
      if (number > 29) number = -1;
      boolean free = number >= 0 && number < newW * newH && !newIsles.contains(number) && !newHills.contains(number);
      String then = null;
      switch (may) {
        case "item":
          if (token.equals("g") && items == 0) then = "width";
          if (token.equals("i") && newIsles.size() < 6) then = "isle";
          if (token.equals("x") && newHills.size() < 6) then = "hill";
          if (token.equals("b")) then = "wind";
          if (token.equals("f") && newForce < 0) then = "force";
          break;
        case "width":
          if (number >= 2 && number <= 6) { newW = number; then = "height"; }
          break;
        case "height":
          if (number >= 2 && number <= 5) { newH = number; then = "end"; }
          break;
        case "isle":
          if (free) { newIsles.add(number); then = "end"; }
          break;
        case "hill":
          if (free) { newHills.add(number); then = "end"; }
          break;
        case "force":
          if (number >= 1 && number <= 6) { newForce = number; then = "end"; }
          break;
        default:
          if (may.startsWith("wind") && number >= 0 && number <= 4 && newWinds.size() < 12) {
            newWinds.add(number);
            then = "winds";
          }
          if ((may.equals("winds") || may.equals("end")) && token.equals(";")) { items++; then = "item"; }
      }
      if (then == null) return -10 - at;
      may = then;
      at = end;
    }
    if (!may.equals("item")) return -10 - text.length();
    w = newW;
    h = newH;
    force = newForce < 0 ? 3 : newForce;
    isles = newIsles;
    hills = newHills;
    now = new Now();
    now.winds = newWinds;
    done.clear();
    Arrays.fill(images, null);
    text = "";
    return items;
  }

  private int wind(int hour) {
    int n = now.winds.size();
    return n == 0 ? 4 : now.winds.get(((hour % n) + n) % n);
  }

  private void pass(Mail m, int wind, TreeSet<Integer> nets) {
    if (!m.how.equals("up") || wind == 4) return;
    boolean blown = false;
    for (int step = 0; step < force - m.weight; step++) {
      int x = (m.x + (wind == 1 ? 1 : wind == 3 ? w - 1 : 0)) % w;
      int y = (m.y + (wind == 2 ? 1 : wind == 0 ? h - 1 : 0)) % h;
      if (hills.contains(y * w + x)) break;
      m.x = x;
      m.y = y;
      blown = true;
    }
    int i = isles.indexOf(m.y * w + m.x);
    if (!blown || i < 0) return;
    if (i == m.to) {
      m.blots.add(i);
      m.how = "arrived";
    } else if (nets.contains(i)) {
      m.how = "caught";
    } else {
      m.blots.add(i);
    }
  }

  private Mail letUp(int from, int to, int weight) {
    Mail m = new Mail();
    m.weight = weight;
    m.from = from;
    m.to = to;
    m.x = isles.get(from) % w;
    m.y = isles.get(from) / w;
    m.blots.add(from);
    return m;
  }

  private void remember() {
    done.push(now.copy());
    if (done.size() > 10) done.removeLast();
  }

  private int letter(int l, int what) {
    if (!aMail(l) || what < 0 || what > 5) return BAD;
    Mail m = now.mails.get(l);
    return new int[] {m.weight, m.from, m.to, m.y * w + m.x, bits(m.blots),
        List.of("up", "arrived", "caught").indexOf(m.how)}[what];
  }

  private int now(int what) {
    if (what < 0 || what > 4) return BAD;
    List<Integer> up = new ArrayList<>();
    for (int l = 0; l < now.mails.size(); l++) if (now.mails.get(l).how.equals("up")) up.add(l);
    return new int[] {now.hour, now.mails.size(), bits(up), bits(now.nets), done.size()}[what];
  }

  private int lets(int from, int to, int weight) {
    if (!aWay(from, to) || !aWeight(weight)) return BAD;
    if (now.mails.size() == 5) return FULL;
    remember();
    now.mails.add(letUp(from, to, weight));
    return now.mails.size() - 1;
  }

  private int hour() {
    if (now.hour == 9999) return STATE;
    remember();
    int arrived = 0;
    for (Mail m : now.mails) {
      String was = m.how;
      pass(m, wind(now.hour), now.nets);
      if (!m.how.equals(was) && m.how.equals("arrived")) arrived++;
    }
    now.hour++;
    return arrived;
  }

  private int net(int i, int is) {
    if (!anIsle(i) || is < 0 || is > 1) return BAD;
    remember();
    return (is == 1 ? !now.nets.add(i) : now.nets.remove(i)) ? 1 : 0;
  }

  private int turn(int k, int wind) {
    if (k < 0 || k >= now.winds.size() || wind < 0 || wind > 4) return BAD;
    remember();
    return now.winds.set(k, wind);
  }

  private int back(int image) {
    if (image < 0 || image > 1) return BAD;
    if (images[image] == null) return STATE;
    now = images[image].copy();
    done.clear();
    return now.hour;
  }

  private int count(int what) {
    if (what < 0 || what > 6) return BAD;
    return new int[] {w, h, isles.size(), hills.size(), now.winds.size(), force, text.length()}[what];
  }

  private long rate(int kind, int l) {
    Mail m = now.mails.get(l);
    int cell = m.y * w + m.x;
    switch (kind) {
      case 0: trace += 1; return m.weight;
      case 1: trace += 10; return rate(0, l) + m.blots.size();
      case 2: trace += 100; return rate(0, l) - cell;
      case 3: trace += 1000; return 2 * rate(1, l);
      case 4: trace += 10000; return rate(2, l) + l;
      default: trace += 100000; return rate(0, l) + now.hour;
    }
  }

  private Mail later(int[] a) {
    if (!aMail(a[0]) || a[1] < 0 || a[1] > 60) return null;
    Mail m = now.mails.get(a[0]).copy();
    for (int n = 0; n < a[1]; n++) pass(m, wind(now.hour + n), now.nets);
    return m;
  }

  private int arrives(Mail m, int hour, TreeSet<Integer> nets) {
    for (int n = 0; n <= 400; n++) {
      if (m.how.equals("arrived")) return n;
      pass(m, wind(hour + n), nets);
    }
    return NONE;
  }

  private int loop(Mail m) {
    int round = Math.max(1, now.winds.size());
    List<Integer> cells = new ArrayList<>();
    for (int n = 0; n < 1600; n++) {
      cells.add(m.y * w + m.x);
      pass(m, wind(now.hour + n), now.nets);
    }
    if (!m.how.equals("up")) return NONE;
    for (int p = round; p <= 400; p += round) {
      boolean alike = true;
      for (int n = 600; n < 1100 && alike; n++) alike = cells.get(n).equals(cells.get(n + p));
      if (alike) return p;
    }
    throw new IllegalStateException("a letter that goes round by no number of hours");
  }

  private int tangled(Mail a, Mail b) {
    for (int n = 0; n <= 400; n++) {
      if (a.how.equals("up") && b.how.equals("up") && a.x == b.x && a.y == b.y) return n;
      pass(a, wind(now.hour + n), now.nets);
      pass(b, wind(now.hour + n), now.nets);
    }
    return NONE;
  }

  private int soonest(int[] a) {
    int[] best = {NONE, NONE};
    for (int k = 11; k >= 0; k--) {
      int takes = arrives(letUp(a[0], a[1], a[2]), now.hour + k, now.nets);
      if (takes >= 0 && (best[0] < 0 || k + takes <= best[1])) best = new int[] {k, k + takes};
    }
    return best[a[3]];
  }

  private int lightest(int[] a) {
    for (int weight = 1; weight <= 5; weight++) {
      int takes = arrives(letUp(a[0], a[1], weight), now.hour, now.nets);
      if (takes >= 0 && takes <= a[2]) return weight;
    }
    return NONE;
  }

  private int words(int i) {
    TreeSet<Integer> found = new TreeSet<>();
    for (int from = 0; from < isles.size(); from++) {
      for (int weight = 1; from != i && weight <= 5; weight++) {
        for (int k = 0; k < 12; k++) {
          if (arrives(letUp(from, i, weight), now.hour + k, now.nets) >= 0) found.add(from);
        }
      }
    }
    return bits(found);
  }

  private int nets(int[] a) {
    for (int size = 0; size <= 6; size++) {
      for (int more = 0; more < 1 << isles.size(); more++) {
        TreeSet<Integer> nets = new TreeSet<>(now.nets);
        for (int i = 0; i < 6; i++) if ((more & 1 << i) != 0) nets.add(i);
        boolean off = (more & 1 << a[0]) == 0 && (more & 1 << a[1]) == 0 && Integer.bitCount(more) == size;
        for (int k = 0; k < 12 && off; k++) off = arrives(letUp(a[0], a[1], a[2]), now.hour + k, nets) < 0;
        if (off) return more;
      }
    }
    return NONE;
  }

  private int who(int[] a) {
    TreeSet<Integer> found = new TreeSet<>();
    for (int from = 0; from < isles.size(); from++) {
      for (int k = 0; from != a[0] && k < 12; k++) {
        Mail m = letUp(from, a[0], a[1]);
        if (arrives(m, now.hour + k, now.nets) >= 0 && bits(m.blots) == a[2]) found.add(from);
      }
    }
    return bits(found);
  }

  private int knee(int d, int n) {
    int alike = 0;
    for (int hour = now.hour; hour < now.hour + n; hour++) if (wind(hour) == wind(hour - d)) alike++;
    return alike;
  }

  private int drift(int weight, int what) {
    int east = 0, south = 0;
    for (int wind : now.winds) {
      for (int step = 0; step < force - weight; step++) {
        east += wind == 1 ? 1 : wind == 3 ? -1 : 0;
        south += wind == 2 ? 1 : wind == 0 ? -1 : 0;
      }
    }
    return what == 0 ? east : south;
  }

  private long odds(int[] a) {
    long upper = ways(now.mails.get(a[0]), a[1], a[2], now.hour), lower = 1;
    for (int n = 0; n < a[2]; n++) lower *= 10;
    for (long d = lower; d > 1; d--) {
      if (upper % d == 0 && lower % d == 0) { upper /= d; lower /= d; }
    }
    return a[3] == 0 ? upper : lower;
  }

  private long ways(Mail m, int p, int hours, int hour) {
    if (hours == 0) return m.how.equals("arrived") ? 1 : 0;
    Mail blown = m.copy();
    pass(blown, wind(hour), now.nets);
    return p * ways(m, p, hours - 1, hour + 1) + (10 - p) * ways(blown, p, hours - 1, hour + 1);
  }
}
