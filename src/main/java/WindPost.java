/** Letters between isles that go by wind alone, over a sea that is round both ways. */
public final class WindPost {
  public static final int BAD = -1, STATE = -2, FULL = -3, NONE = -9;
  public static final int NO = -1000000;

  private static final int HILL = -5, FAULT = -10;
  private static final int MOST_TEXT = 200, MOST_NUMBER = 29;
  private static final int MOST_ISLES = 6, MOST_HILLS = 6, MOST_CELLS = 30;
  private static final int MOST_WINDS = 12, CALM = 4;
  private static final int MOST_FORCE = 6, MOST_WEIGHT = 5, MOST_REACH = 5;
  private static final int MOST_LETTERS = 5, LAST_HOUR = 9999;
  private static final int UP = 0, ARRIVED = 1, CAUGHT = 2;
  private static final int NOT_BLOWN = -1;
  private static final int MOST_UNDONE = 10, IMAGES = 2;
  private static final int LOOK = 400, AHEAD = 60, STARTS = 12;
  private static final int MOST_KNEE = 12, MOST_ODDS = 6, TENTHS = 10;

  private final Text text;
  private Chart chart;
  private Chart draft;
  private final Moment now;
  private final Moment[] past;
  private int pastNext;
  private int pastKnown;
  private final Moment[] images;
  private final boolean[] kept;
  private final Letter probe;
  private final Letter second;
  private long traced;

  public WindPost() {
    text = new Text();
    chart = new Chart();
    draft = new Chart();
    now = new Moment();
    past = new Moment[MOST_UNDONE];
    for (int i = 0; i < MOST_UNDONE; i++) past[i] = new Moment();
    images = new Moment[IMAGES];
    for (int i = 0; i < IMAGES; i++) images[i] = new Moment();
    kept = new boolean[IMAGES];
    probe = new Letter();
    second = new Letter();
  }

  // ---- the sea

  public int type(int letter) {
    if (!isWithin(letter, 0, 255)) return BAD;
    if (text.length >= MOST_TEXT) return FULL;
    text.add(letter);
    return text.length;
  }

  public int clear() {
    int had = text.length;
    text.length = 0;
    return had;
  }

  public int sea() {
    int items = text.readInto(draft);
    if (items < 0) return items;
    Chart old = chart;
    chart = draft;
    draft = old;
    chart.drawEnds();
    text.length = 0;
    now.beginAnew(chart);
    pastKnown = 0;
    for (int i = 0; i < IMAGES; i++) kept[i] = false;
    return items;
  }

  public int isle(int i, int what) {
    if (!isIsle(i) || !isWithin(what, 0, 1)) return BAD;
    return what == 0 ? chart.isleCells[i] : bitOf(now.nets, i);
  }

  public int cell(int c) {
    if (!isWithin(c, 0, chart.cells() - 1)) return BAD;
    return chart.holds[c];
  }

  public int wind(int k) {
    if (!isWithin(k, 0, LOOK)) return BAD;
    return now.windOf(now.time + k);
  }

  public int letter(int l, int what) {
    if (!isLetter(l)) return BAD;
    Letter it = now.post[l];
    switch (what) {
      case 0: return it.weight;
      case 1: return it.from;
      case 2: return it.to;
      case 3: return it.place;
      case 4: return it.marks;
      case 5: return it.how;
      default: return BAD;
    }
  }

  public int now(int what) {
    switch (what) {
      case 0: return now.time;
      case 1: return now.letters;
      case 2: return now.lettersUp();
      case 3: return now.nets;
      case 4: return pastKnown;
      default: return BAD;
    }
  }

  // ---- what is done

  public int lets(int from, int to, int weight) {
    if (!isWay(from, to) || !isWeight(weight)) return BAD;
    if (now.letters >= MOST_LETTERS) return FULL;
    remember();
    int number = now.letters;
    now.post[number].letUp(chart, from, to, weight);
    now.letters++;
    return number;
  }

  public int hour() {
    if (now.time >= LAST_HOUR) return STATE;
    remember();
    int blowing = now.windOf(now.time);
    int arrived = 0;
    for (int l = 0; l < now.letters; l++) {
      Letter it = now.post[l];
      boolean wasUp = it.how == UP;
      it.passHour(chart, blowing, now.nets);
      if (wasUp && it.how == ARRIVED) arrived++;
    }
    now.time++;
    return arrived;
  }

  public int net(int i, int is) {
    if (!isIsle(i) || !isWithin(is, 0, 1)) return BAD;
    remember();
    int was = bitOf(now.nets, i);
    now.nets = is == 1 ? now.nets | 1 << i : now.nets & ~(1 << i);
    return was;
  }

  public int turn(int k, int w) {
    if (!isWithin(k, 0, now.told - 1) || !isWithin(w, 0, CALM)) return BAD;
    remember();
    int was = now.winds[k];
    now.winds[k] = w;
    return was;
  }

  public int undo() {
    if (pastKnown < 1) return STATE;
    pastNext = pastNext > 0 ? pastNext - 1 : MOST_UNDONE - 1;
    now.copyFrom(past[pastNext]);
    pastKnown--;
    return pastKnown;
  }

  // ---- where it goes

  public int where(int l, int n) {
    if (!isLetter(l) || !isWithin(n, 0, AHEAD)) return BAD;
    return letterIn(l, n).place;
  }

  public int comes(int l) {
    if (!isLetter(l)) return BAD;
    probe.copyFrom(now.post[l]);
    return arrival(now.time, now.nets);
  }

  public int blots(int l, int n) {
    if (!isLetter(l) || !isWithin(n, 0, AHEAD)) return BAD;
    return letterIn(l, n).marks;
  }

  public int loop(int l) {
    if (!isLetter(l)) return BAD;
    int round = Math.max(1, now.told);
    // Behind as many rounds of winds as there are cells, a letter still up can but go over old ways.
    if (letterIn(l, chart.cells() * round).how != UP) return NONE;
    int start = probe.place;
    for (int rounds = 1; rounds <= MOST_CELLS; rounds++) {
      passHours(probe, now.time, round);
      if (probe.place == start) return rounds * round;
    }
    return NONE;
  }

  public int tangled(int a, int b) {
    if (!isLetter(a) || !isLetter(b) || a == b) return BAD;
    probe.copyFrom(now.post[a]);
    second.copyFrom(now.post[b]);
    for (int n = 0; n <= LOOK; n++) {
      if (probe.how != UP || second.how != UP) return NONE;
      if (probe.place == second.place) return n;
      passHours(probe, now.time + n, 1);
      passHours(second, now.time + n, 1);
    }
    return NONE;
  }

  // ---- when, how heavy

  public int soonest(int from, int to, int weight, int what) {
    if (!isWay(from, to) || !isWeight(weight) || !isWithin(what, 0, 1)) return BAD;
    int bestStart = NONE;
    int bestEnd = NONE;
    for (int k = 0; k < STARTS; k++) {
      int takes = supposed(from, to, weight, k, now.nets);
      if (takes != NONE && (bestEnd == NONE || k + takes < bestEnd)) {
        bestStart = k;
        bestEnd = k + takes;
      }
    }
    return what == 0 ? bestStart : bestEnd;
  }

  public int lightest(int from, int to, int n) {
    if (!isWay(from, to) || !isWithin(n, 1, AHEAD)) return BAD;
    for (int weight = 1; weight <= MOST_WEIGHT; weight++) {
      int takes = supposed(from, to, weight, 0, now.nets);
      if (takes != NONE && takes <= n) return weight;
    }
    return NONE;
  }

  public int words(int i) {
    if (!isIsle(i)) return BAD;
    int found = 0;
    for (int from = 0; from < chart.isles; from++) {
      if (from != i && hasWordOf(from, i)) found |= 1 << from;
    }
    return found;
  }

  public int nets(int from, int to, int weight) {
    if (!isWay(from, to) || !isWeight(weight)) return BAD;
    int best = NONE;
    int fewest = MOST_ISLES + 1;
    int ends = 1 << from | 1 << to;
    for (int more = 0; more < 1 << chart.isles; more++) {
      int size = Integer.bitCount(more);
      if ((more & ends) == 0 && size < fewest && keepsOff(from, to, weight, more)) {
        best = more;
        fewest = size;
      }
    }
    return best;
  }

  public int who(int to, int weight, int blots) {
    if (!isIsle(to) || !isWeight(weight)) return BAD;
    if (!isWithin(blots, 0, (1 << chart.isles) - 1)) return BAD;
    int found = 0;
    for (int from = 0; from < chart.isles; from++) {
      if (from != to && comesWith(from, to, weight, blots)) found |= 1 << from;
    }
    return found;
  }

  // ---- knees, drifts, odds

  public int knee(int d, int n) {
    if (!isWithin(d, 1, MOST_KNEE) || !isWithin(n, 1, MOST_KNEE)) return BAD;
    int alike = 0;
    for (int j = 0; j < n; j++) {
      int time = now.time + j;
      if (now.windOf(time) == now.windOf(time - d)) alike++;
    }
    return alike;
  }

  public int drift(int weight, int what) {
    if (!isWeight(weight) || !isWithin(what, 0, 1)) return NO;
    int ahead = what == 0 ? 1 : 2;
    int against = what == 0 ? 3 : 0;
    int sum = 0;
    for (int k = 0; k < now.told; k++) {
      if (now.winds[k] == ahead) sum++;
      if (now.winds[k] == against) sum--;
    }
    return sum * Math.max(0, chart.force - weight);
  }

  public int odds(int l, int p, int n, int what) {
    if (!isLetter(l) || !isWithin(p, 0, TENTHS)) return BAD;
    if (!isWithin(n, 0, MOST_ODDS) || !isWithin(what, 0, 1)) return BAD;
    int upper = 0;
    for (int calms = 0; calms < 1 << n; calms++) upper += shareArrived(l, p, n, calms);
    int lower = 1;
    for (int j = 0; j < n; j++) lower *= TENTHS;
    int common = commonDivisor(upper, lower);
    if (common < 1) return BAD;
    return what == 0 ? upper / common : lower / common;
  }

  // ---- kinds, images

  public int rate(int kind, int l) {
    if (!isLetter(l)) return NO;
    switch (kind) {
      case 0: return rateLetter(l);
      case 1: return rateSummons(l);
      case 2: return rateGoose(l);
      case 3: return rateBill(l);
      case 4: return rateVow(l);
      case 5: return rateKite(l);
      default: return NO;
    }
  }

  public int keep(int image) {
    if (!isWithin(image, 0, IMAGES - 1)) return BAD;
    images[image].copyFrom(now);
    kept[image] = true;
    return now.time;
  }

  public int back(int image) {
    if (!isWithin(image, 0, IMAGES - 1)) return BAD;
    if (!kept[image]) return STATE;
    now.copyFrom(images[image]);
    pastKnown = 0;
    return now.time;
  }

  public int count(int what) {
    switch (what) {
      case 0: return chart.wide;
      case 1: return chart.high;
      case 2: return chart.isles;
      case 3: return chart.hills;
      case 4: return now.told;
      case 5: return chart.force;
      case 6: return text.length;
      default: return BAD;
    }
  }

  public long trace() {
    return traced;
  }

  // ---- what the calls share

  private static boolean isWithin(int number, int least, int most) {
    return number >= least && number <= most;
  }

  private static int bitOf(int bits, int place) {
    return bits >> place & 1;
  }

  private boolean isIsle(int i) {
    return isWithin(i, 0, chart.isles - 1);
  }

  private boolean isLetter(int l) {
    return isWithin(l, 0, now.letters - 1);
  }

  private static boolean isWeight(int weight) {
    return isWithin(weight, 1, MOST_WEIGHT);
  }

  private boolean isWay(int from, int to) {
    return isIsle(from) && isIsle(to) && from != to;
  }

  /** Keeps what is now, so that the call that follows can be undone; the oldest gives way. */
  private void remember() {
    past[pastNext].copyFrom(now);
    pastNext = pastNext < MOST_UNDONE - 1 ? pastNext + 1 : 0;
    pastKnown = Math.min(pastKnown + 1, MOST_UNDONE);
  }

  private void passHours(Letter it, int time, int hours) {
    for (int n = 0; n < hours; n++) it.passHour(chart, now.windOf(time + n), now.nets);
  }

  /** The probe, as the letter will be in so many hours. */
  private Letter letterIn(int l, int hours) {
    probe.copyFrom(now.post[l]);
    passHours(probe, now.time, hours);
    return probe;
  }

  /** In how many hours the probe, where it is at that time, will have arrived; NONE. */
  private int arrival(int time, int nets) {
    if (probe.how == ARRIVED) return 0;
    // A letter that was at every cell by every wind told goes over old ways; that is below LOOK.
    int end = Math.min(LOOK, chart.cells() * Math.max(1, now.told));
    for (int n = 1; n <= end && probe.how == UP; n++) {
      probe.passHour(chart, now.windOf(time + n - 1), nets);
      if (probe.how == ARRIVED) return n;
    }
    return NONE;
  }

  /** The same for a letter that is let up in k hours; the probe is it, as it arrived. */
  private int supposed(int from, int to, int weight, int k, int nets) {
    probe.letUp(chart, from, to, weight);
    if (probe.reach < 1) return NONE;
    return arrival(now.time + k, nets);
  }

  private boolean hasWordOf(int from, int to) {
    for (int weight = 1; weight <= MOST_WEIGHT; weight++) {
      if (!keepsOff(from, to, weight, 0)) return true;
    }
    return false;
  }

  private boolean keepsOff(int from, int to, int weight, int more) {
    for (int k = 0; k < STARTS; k++) {
      if (supposed(from, to, weight, k, now.nets | more) != NONE) return false;
    }
    return true;
  }

  private boolean comesWith(int from, int to, int weight, int marks) {
    for (int k = 0; k < STARTS; k++) {
      if (supposed(from, to, weight, k, now.nets) != NONE && probe.marks == marks) return true;
    }
    return false;
  }

  /** How many of 10 to the n by which just these of the next hours are calm; 0 if it won't have arrived. */
  private int shareArrived(int l, int p, int n, int calms) {
    probe.copyFrom(now.post[l]);
    int share = 1;
    for (int j = 0; j < n; j++) {
      boolean calm = bitOf(calms, j) == 1;
      share *= calm ? p : TENTHS - p;
      probe.passHour(chart, calm ? CALM : now.windOf(now.time + j), now.nets);
    }
    return probe.how == ARRIVED ? share : 0;
  }

  private static int commonDivisor(int a, int b) {
    int big = a;
    int small = b;
    for (int n = 0; n < 100 && small > 0; n++) {
      int left = big % small;
      big = small;
      small = left;
    }
    return big;
  }

  private int rateLetter(int l) {
    traced += 1;
    return now.post[l].weight;
  }

  private int rateSummons(int l) {
    traced += 10;
    return rateLetter(l) + Integer.bitCount(now.post[l].marks);
  }

  private int rateGoose(int l) {
    traced += 100;
    return rateLetter(l) - now.post[l].place;
  }

  private int rateBill(int l) {
    traced += 1000;
    return 2 * rateSummons(l);
  }

  private int rateVow(int l) {
    traced += 10000;
    return rateGoose(l) + l;
  }

  private int rateKite(int l) {
    traced += 100000;
    return rateLetter(l) + now.time;
  }

  /** A letter let up, or one that is only supposed. */
  private static final class Letter {
    int weight;
    int from;
    int to;
    int place;
    int marks;
    int how;
    int reach;

    void letUp(Chart chart, int newFrom, int newTo, int newWeight) {
      weight = newWeight;
      from = newFrom;
      to = newTo;
      place = chart.cellOfIsle(newFrom);
      marks = 1 << newFrom;
      how = UP;
      reach = chart.force - newWeight;
    }

    void copyFrom(Letter other) {
      weight = other.weight;
      from = other.from;
      to = other.to;
      place = other.place;
      marks = other.marks;
      how = other.how;
      reach = other.reach;
    }

    void passHour(Chart chart, int blowing, int nets) {
      if (how != UP) return;
      int end = chart.endOf(reach, blowing, place);
      if (end == NOT_BLOWN) return;
      place = end;
      int i = chart.onCell(end);
      if (i < 0) return;
      if (i != to && bitOf(nets, i) == 1) {
        how = CAUGHT;
        return;
      }
      marks |= 1 << i;
      if (i == to) how = ARRIVED;
    }
  }

  /** All that an image keeps: the hour, the letters, the nets and the winds. */
  private static final class Moment {
    int time;
    int letters;
    int nets;
    int told;
    final int[] winds = new int[MOST_WINDS];
    final Letter[] post = new Letter[MOST_LETTERS];

    Moment() {
      for (int l = 0; l < MOST_LETTERS; l++) post[l] = new Letter();
    }

    void beginAnew(Chart chart) {
      time = 0;
      letters = 0;
      nets = 0;
      told = chart.told;
      for (int k = 0; k < MOST_WINDS; k++) winds[k] = chart.winds[k];
    }

    void copyFrom(Moment other) {
      time = other.time;
      letters = other.letters;
      nets = other.nets;
      told = other.told;
      for (int k = 0; k < MOST_WINDS; k++) winds[k] = other.winds[k];
      for (int l = 0; l < MOST_LETTERS; l++) post[l].copyFrom(other.post[l]);
    }

    int windOf(int anyTime) {
      if (told < 1 || told > MOST_WINDS) return CALM;
      return winds[Math.floorMod(anyTime, told)];
    }

    int lettersUp() {
      int bits = 0;
      for (int l = 0; l < letters && l < MOST_LETTERS; l++) {
        if (post[l].how == UP) bits |= 1 << l;
      }
      return bits;
    }
  }

  /** The sea as it was told. */
  private static final class Chart {
    int wide;
    int high;
    int force;
    int isles;
    int hills;
    int told;
    final int[] isleCells = new int[MOST_ISLES];
    final int[] holds = new int[MOST_CELLS];
    final int[] winds = new int[MOST_WINDS];
    private final int[] ends = new int[MOST_REACH * CALM * MOST_CELLS];

    Chart() {
      untell();
      drawEnds();
    }

    void untell() {
      wide = 4;
      high = 4;
      force = 3;
      isles = 0;
      hills = 0;
      told = 0;
      for (int c = 0; c < MOST_CELLS; c++) holds[c] = NONE;
    }

    int cells() {
      return Math.min(wide * high, MOST_CELLS);
    }

    int cellOfIsle(int i) {
      return i >= 0 && i < MOST_ISLES ? isleCells[i] : 0;
    }

    int onCell(int c) {
      return c >= 0 && c < MOST_CELLS ? holds[c] : NONE;
    }

    void addIsle(int c) {
      if (isles >= MOST_ISLES || c < 0 || c >= MOST_CELLS) return;
      isleCells[isles] = c;
      holds[c] = isles;
      isles++;
    }

    void addHill(int c) {
      if (c < 0 || c >= MOST_CELLS) return;
      holds[c] = HILL;
      hills++;
    }

    void addWind(int w) {
      if (told >= MOST_WINDS) return;
      winds[told] = w;
      told++;
    }

    /** Where each wind blows a letter to is drawn once, as the calls that look ahead ask it often. */
    void drawEnds() {
      for (int w = 0; w < CALM; w++) {
        for (int c = 0; c < cells(); c++) drawWay(w, c);
      }
    }

    private void drawWay(int w, int start) {
      int at = start;
      int end = NOT_BLOWN;
      for (int reach = 1; reach <= MOST_REACH; reach++) {
        int next = beside(at, w);
        if (onCell(next) != HILL) {
          at = next;
          end = next;
        }
        ends[((reach - 1) * CALM + w) * MOST_CELLS + start] = end;
      }
    }

    private int beside(int c, int w) {
      if (wide < 1) return c;
      int all = wide * high;
      int column = c % wide;
      switch (w) {
        case 0: return c >= wide ? c - wide : c - wide + all;
        case 1: return column < wide - 1 ? c + 1 : c - column;
        case 2: return c < all - wide ? c + wide : c + wide - all;
        case 3: return column > 0 ? c - 1 : c + wide - 1;
        default: return c;
      }
    }

    int endOf(int reach, int w, int c) {
      if (reach < 1 || reach > MOST_REACH || w < 0 || w >= CALM) return NOT_BLOWN;
      if (c < 0 || c >= MOST_CELLS) return NOT_BLOWN;
      return ends[((reach - 1) * CALM + w) * MOST_CELLS + c];
    }
  }

  /** The text, and how it is read token by token. */
  private static final class Text {
    private static final int NUMBER = 256, END = 257, WRONG = 258;

    int length;
    private final int[] signs = new int[MOST_TEXT];
    private int next;
    private int place;
    private int token;
    private int number;
    private int items;
    private boolean forceTold;

    void add(int letter) {
      if (length >= MOST_TEXT) return;
      signs[length] = letter;
      length++;
    }

    /** How many items it tells to the chart, or FAULT less the place where it can't be read. */
    int readInto(Chart draft) {
      draft.untell();
      next = 0;
      items = 0;
      forceTold = false;
      for (int n = 0; n <= MOST_TEXT; n++) {
        step();
        if (token == END) return items;
        if (!readItem(draft)) return FAULT - place;
        items++;
      }
      return items;
    }

    private boolean readItem(Chart draft) {
      switch (token) {
        case 'g': return items == 0 && readSize(draft);
        case 'i': return draft.isles < MOST_ISLES && readIsle(draft);
        case 'x': return draft.hills < MOST_HILLS && readHill(draft);
        case 'b': return readWinds(draft);
        case 'f': return !forceTold && readForce(draft);
        default: return false;
      }
    }

    private boolean readSize(Chart draft) {
      if (!stepsToNumber(2, 6)) return false;
      draft.wide = number;
      if (!stepsToNumber(2, 5)) return false;
      draft.high = number;
      return stepsToEnd();
    }

    private boolean readIsle(Chart draft) {
      if (!stepsToNumber(0, draft.cells() - 1) || draft.onCell(number) != NONE) return false;
      draft.addIsle(number);
      return stepsToEnd();
    }

    private boolean readHill(Chart draft) {
      if (!stepsToNumber(0, draft.cells() - 1) || draft.onCell(number) != NONE) return false;
      draft.addHill(number);
      return stepsToEnd();
    }

    private boolean readForce(Chart draft) {
      if (!stepsToNumber(1, MOST_FORCE)) return false;
      draft.force = number;
      forceTold = true;
      return stepsToEnd();
    }

    private boolean readWinds(Chart draft) {
      for (int n = 0; n <= MOST_WINDS; n++) {
        step();
        if (n > 0 && token == ';') return true;
        if (token != NUMBER || number > CALM || draft.told >= MOST_WINDS) return false;
        draft.addWind(number);
      }
      return false;
    }

    private boolean stepsToNumber(int least, int most) {
      step();
      return token == NUMBER && isWithin(number, least, most);
    }

    private boolean stepsToEnd() {
      step();
      return token == ';';
    }

    /** Goes on to the next token; at the text's end its place is the text's length. */
    private void step() {
      while (next < length && signs[next] == ' ') next++;
      place = next;
      number = 0;
      while (next < length && isDigit(signs[next])) {
        // Held low, so that many digits can't wrap around.
        number = Math.min(number * 10 + signs[next] - '0', MOST_NUMBER + 1);
        next++;
      }
      int digits = next - place;
      if (digits > 0) {
        boolean zeroAhead = digits > 1 && signs[place] == '0';
        token = zeroAhead || number > MOST_NUMBER ? WRONG : NUMBER;
      } else if (next >= length) {
        token = END;
      } else {
        token = isSign(signs[next]) ? signs[next] : WRONG;
        next++;
      }
    }

    private static boolean isDigit(int sign) {
      return sign >= '0' && sign <= '9';
    }

    private static boolean isSign(int sign) {
      return sign == 'g' || sign == 'i' || sign == 'x' || sign == 'b' || sign == 'f' || sign == ';';
    }
  }
}
