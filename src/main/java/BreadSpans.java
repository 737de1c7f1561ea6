/**
 * Bridges of bread over the arms of a delta.
 *
 * All rows are made once, in the constructors: no later call makes an object.
 */
public final class BreadSpans {
  private static final int LOW = -1000000000;
  private static final int BEYOND = 1;
  private static final int NONE = 2;
  private static final int STATE = 3;
  private static final int FULL = 4;
  private static final int KIND = 5;
  private static final int PARTED = 6;

  private static final int PLACES = 8;
  private static final int SPANS = 9;
  private static final int MOST_LOAD = 99;
  private static final int MOST_FLOUR = 9999;
  private static final int MOST_RAIN = 9;
  private static final int MOST_WET = 9;
  private static final int MOST_AGE = 99;
  private static final int MOST_DAY = 9999;
  private static final int MOST_COUNTED = 99999;
  private static final int MOST_AHEAD = 60;
  private static final int TAPE = 60;
  private static final int WAITING = 24;
  private static final int SHEETS = 4;
  private static final int SHEET = 24;
  private static final int TRACE = 30;

  private static final int LOAF = 0;
  private static final int RYE = 1;
  private static final int BRIOCHE = 2;
  private static final int CART = 3;
  private static final int BARLEY = 4;
  private static final int TOAST = 5;
  private static final int PIETY = 6;
  /** By KIND the KIND above; -1: there is none. */
  private static final int[] ABOVE = {-1, 0, 0, 0, 1, 2, 0};

  private static final int SOAKS = 0;
  private static final int CRUMBS = 1;
  private static final String SOAKS_NAMES = "rwk";
  private static final String CRUMBS_NAMES = "lbm";

  private static final int CRUSTS = 0;
  private static final int STEAMS = 1;
  private static final int CRUMBLES = 2;
  private static final int PARTS = 3;

  /** By KIND and VOICE the number of the BODY, or 0 where the KIND has none of its own. */
  private static final int[] BODIES = {
    10, 11, 12, 13,
    20, 0, 0, 21,
    0, 30, 0, 0,
    0, 0, 40, 0,
    50, 0, 51, 0,
    0, 60, 0, 0,
    70, 71, 0, 0
  };

  private final Delta now = new Delta();
  private final Delta kept = new Delta();
  private final Delta thought = new Delta();
  private final Reader reader = new Reader();
  private final Voices voices = new Voices();
  private final Sheet[] sheets = new Sheet[SHEETS];
  private final int[] errors = new int[PARTED + 1];
  private int images = 0;

  public BreadSpans() {
    for (int i = 0; i < SHEETS; i++) {
      sheets[i] = new Sheet();
    }
  }

  // ---- spans

  public int span(int km, int one, int other) {
    if (!isKindAndNumber(km) || !areTwoPlaces(one, other)) {
      return error(BEYOND);
    }
    if (now.many >= SPANS) {
      return error(FULL);
    }
    return now.addSpan(km, one, other);
  }

  public int spanIs(int span, int what) {
    if (!now.hasSpan(span) || !within(what, 0, 8)) {
      return error(BEYOND);
    }
    Span s = now.spans[span];
    switch (what) {
      case 0: return s.kind;
      case 1: return s.m;
      case 2: return s.one;
      case 3: return s.other;
      case 4: return s.age;
      case 5: return s.wet;
      case 6: return s.gone ? 1 : 0;
      case 7: return s.bearsOn(now.day);
      default: return s.takes();
    }
  }

  public int become(int span, int km) {
    if (!now.hasSpan(span) || !isKindAndNumber(km)) {
      return error(BEYOND);
    }
    Span s = now.spans[span];
    int was = s.kind;
    s.kind = km / 10;
    s.m = km % 10;
    return was;
  }

  public int as(int span, int kind) {
    if (!now.hasSpan(span) || !within(kind, LOAF, PIETY)) {
      return error(BEYOND);
    }
    Span s = now.spans[span];
    if (!isUnder(s.kind, kind)) {
      return error(KIND);
    }
    return s.m;
  }

  public int soak(int span, int wet) {
    if (!now.hasSpan(span) || !within(wet, 0, MOST_WET)) {
      return error(BEYOND);
    }
    Span s = now.spans[span];
    int was = s.wet;
    s.wet = wet;
    return was;
  }

  public int bakes(int span) {
    if (!now.hasSpan(span)) {
      return error(BEYOND);
    }
    Span s = now.spans[span];
    int takes = s.takes();
    if (now.flour < takes) {
      return error(STATE);
    }
    now.flour -= takes;
    s.bakeAnew();
    return takes;
  }

  public int eat(int span) {
    if (!now.hasSpan(span)) {
      return error(BEYOND);
    }
    Span s = now.spans[span];
    int was = s.gone ? 1 : 0;
    s.gone = true;
    return was;
  }

  public int store(int what, int v) {
    if (!within(what, 0, 1) || !within(v, 0, what == 0 ? MOST_FLOUR : MOST_RAIN)) {
      return error(BEYOND);
    }
    int was;
    if (what == 0) {
      was = now.flour;
      now.flour = v;
    } else {
      was = now.rain;
      now.rain = v;
    }
    return was;
  }

  public int cross(int span, int load) {
    if (!now.hasSpan(span) || !isLoad(load)) {
      return error(BEYOND);
    }
    Span s = now.spans[span];
    if (s.gone) {
      return error(STATE);
    }
    return now.carryOver(s, load);
  }

  // ---- texts

  public int feed(long word, int n) {
    if (!within(n, 1, 8)) {
      return error(BEYOND);
    }
    if (now.taped > TAPE - n) {
      return error(FULL);
    }
    return now.addToTape(word, n);
  }

  public int text(int use) {
    if (!isUse(use)) {
      return error(BEYOND);
    }
    boolean reads = reader.reads(now.tape, now.taped, use);
    now.taped = 0;
    if (!reads) {
      return -10 - reader.at;
    }
    now.laws[use].write(reader.code, reader.made);
    return 1;
  }

  public int untell(int use) {
    if (!isUse(use)) {
      return error(BEYOND);
    }
    int was = now.laws[use].written ? 1 : 0;
    now.laws[use].written = false;
    return was;
  }

  public int law(int use, int a, int b, int c) {
    if (!isUse(use)) {
      return error(BEYOND);
    }
    return now.gives(use, a, b, c);
  }

  // ---- days

  public int days(int n) {
    if (!within(n, 1, 60)) {
      return error(BEYOND);
    }
    if (now.day > MOST_DAY - n) {
      return error(STATE);
    }
    for (int i = 0; i < n; i++) {
      now.passDay();
    }
    return now.day;
  }

  public int loose(int n) {
    if (!within(n, 1, 30)) {
      return error(BEYOND);
    }
    if (now.day > MOST_DAY - n) {
      return error(STATE);
    }
    int broke = 0;
    for (int i = 0; i < n; i++) {
      broke += now.passDayByDraws();
    }
    return broke;
  }

  public int seed(int v) {
    int was = now.z;
    now.z = v;
    return was;
  }

  // ---- who gets where

  public int joined(int place, int load) {
    if (!isPlace(place) || !isLoad(load)) {
      return error(BEYOND);
    }
    return now.reachOver(place, now.bearing(load));
  }

  public int load(int one, int other) {
    if (!areTwoPlaces(one, other)) {
      return error(BEYOND);
    }
    for (int load = MOST_LOAD; load >= 0; load--) {
      if (now.joins(one, other, now.bearing(load))) {
        return load;
      }
    }
    return error(NONE);
  }

  public int baking(int one, int other, int load, int what) {
    if (!areTwoPlaces(one, other) || !isLoad(load) || !within(what, 0, 1)) {
      return error(BEYOND);
    }
    int asNow = now.bearing(load);
    thought.takeFrom(now);
    thought.bakeAllAnew();
    int asBaked = thought.bearing(load);
    int best = -1;
    int least = 0;
    for (int set = 0; set < 1 << now.many; set++) {
      int flour = now.flourFor(set);
      if ((best < 0 || flour < least) && now.joins(one, other, (asNow & ~set) | (asBaked & set))) {
        best = set;
        least = flour;
      }
    }
    if (best < 0) {
      return error(NONE);
    }
    return what == 0 ? least : best;
  }

  public int eating(int one, int other, int load, int what) {
    if (!areTwoPlaces(one, other) || !isLoad(load) || !within(what, 0, 1)) {
      return error(BEYOND);
    }
    int bearing = now.bearing(load);
    int best = 0;
    int fewest = SPANS + 1;
    for (int set = 0; set < 1 << now.many; set++) {
      int many = Integer.bitCount(set);
      if (many < fewest && !now.joins(one, other, bearing & ~set)) {
        best = set;
        fewest = many;
      }
    }
    return what == 0 ? fewest : best;
  }

  public int lasts(int one, int other, int load) {
    if (!areTwoPlaces(one, other) || !isLoad(load)) {
      return error(BEYOND);
    }
    thought.takeFrom(now);
    for (int n = 0; n <= MOST_AHEAD; n++) {
      if (!thought.joins(one, other, thought.bearing(load))) {
        return n;
      }
      thought.passDay();
    }
    return error(NONE);
  }

  public int then(int span, int n) {
    if (!now.hasSpan(span) || !within(n, 0, MOST_AHEAD)) {
      return error(BEYOND);
    }
    thought.takeFrom(now);
    for (int i = 0; i < n; i++) {
      thought.passDay();
    }
    return thought.spans[span].bearsOn(thought.day);
  }

  public int odds(int one, int other, int load, int part) {
    if (!areTwoPlaces(one, other) || !isLoad(load) || !within(part, 0, 1)) {
      return error(BEYOND);
    }
    int above = 0;
    for (int rain = 0; rain <= MOST_RAIN; rain++) {
      thought.takeFrom(now);
      thought.rain = rain;
      thought.passDay();
      if (thought.joins(one, other, thought.bearing(load))) {
        above++;
      }
    }
    int below = MOST_RAIN + 1;
    int common = Math.max(1, greatestCommon(above, below));
    return part == 0 ? above / common : below / common;
  }

  public int fits(int sheet) {
    if (!isSheet(sheet)) {
      return error(BEYOND);
    }
    Sheet s = sheets[sheet];
    if (s.isMissing()) {
      return error(NONE);
    }
    thought.takeFrom(now);
    for (int n = 0; n <= MOST_AHEAD; n++) {
      if (thought.rightOnes(s) == s.n) {
        return n;
      }
      thought.passDay();
    }
    return error(NONE);
  }

  // ---- voices, sheets, images, what is told

  public int voice(int span, int voice, int x) {
    if (!now.hasSpan(span) || !within(voice, CRUSTS, PARTS)) {
      return error(BEYOND);
    }
    int said = voices.speak(now.spans[span], span, voice, x);
    // The TRACE is of the latest voice(), also of one that parted: its BODIES began.
    return voices.parted ? error(PARTED) : said;
  }

  public int body(int i) {
    if (!within(i, 0, voices.traced - 1)) {
      return error(NONE);
    }
    return voices.trace[i];
  }

  public int sheet(int sheet, int bits, int n) {
    if (!isSheet(sheet) || bits != 0 && bits != 8 && bits != 16 && bits != 32) {
      return error(BEYOND);
    }
    if (bits != 0) {
      if (n < 0) {
        return error(STATE);
      }
      if (n > SHEET) {
        return error(BEYOND);
      }
    }
    sheets[sheet].renew(bits, bits == 0 ? 0 : n);
    return 1;
  }

  public int put(int sheet, int i, int v) {
    if (!isSheet(sheet)) {
      return error(BEYOND);
    }
    Sheet s = sheets[sheet];
    if (s.isMissing()) {
      return error(NONE);
    }
    if (!within(i, 0, s.n - 1)) {
      return error(BEYOND);
    }
    s.write(i, v);
    return 1;
  }

  public int move(int sheet, int i, int other, int j, int n) {
    if (!isSheet(sheet) || !isSheet(other)) {
      return error(BEYOND);
    }
    Sheet from = sheets[sheet];
    Sheet to = sheets[other];
    if (from.isMissing() || to.isMissing()) {
      return error(NONE);
    }
    if (from.bits != to.bits) {
      return error(KIND);
    }
    if (!from.hasRow(i, n) || !to.hasRow(j, n)) {
      return error(BEYOND);
    }
    System.arraycopy(from.numbers, i, to.numbers, j, n);
    return n;
  }

  public int soaks(int sheet) {
    if (!isSheet(sheet)) {
      return error(BEYOND);
    }
    Sheet s = sheets[sheet];
    if (s.isMissing()) {
      return error(NONE);
    }
    int done = 0;
    for (int i = 0; i < s.n && now.hasSpan(i) && within(s.numbers[i], 0, MOST_WET); i++) {
      now.spans[i].wet = s.numbers[i];
      done++;
    }
    return done;
  }

  public int judge(int sheet) {
    if (!isSheet(sheet)) {
      return error(BEYOND);
    }
    Sheet s = sheets[sheet];
    return s.isMissing() ? error(NONE) : now.rightOnes(s);
  }

  public int image() {
    kept.takeFrom(now);
    images++;
    return images;
  }

  public int restore() {
    if (images == 0) {
      return error(NONE);
    }
    now.takeFrom(kept);
    return now.day;
  }

  public int tell(int v) {
    if (now.waits >= WAITING) {
      return error(FULL);
    }
    now.waiting[now.waits] = v;
    now.waits++;
    return now.waits;
  }

  public int check() {
    int many = now.waits;
    now.waits = 0;
    for (int i = 0; i < many; i++) {
      if (!now.hasSpan(i) || now.spans[i].age != now.waiting[i]) {
        return 1 + i;
      }
    }
    return 0;
  }

  public int count(int what) {
    switch (what) {
      case 0: return now.many;
      case 1: return now.day;
      case 2: return now.rain;
      case 3: return now.flour;
      case 4: return now.lost;
      case 5: return now.toll;
      case 6: return now.taped;
      case 7: return now.waits;
      case 8: return voices.traced;
      case 9: return now.z;
      default: return error(BEYOND);
    }
  }

  public int told(int k) {
    if (!within(k, BEYOND, PARTED)) {
      return error(BEYOND);
    }
    return errors[k];
  }

  // ---- what the acts share

  private int error(int k) {
    errors[k]++;
    return LOW - k;
  }

  private static boolean within(int v, int low, int high) {
    return v >= low && v <= high;
  }

  private static int held(int v, int low, int high) {
    return Math.max(low, Math.min(high, v));
  }

  private static boolean isPlace(int place) {
    return within(place, 0, PLACES - 1);
  }

  private static boolean areTwoPlaces(int one, int other) {
    return isPlace(one) && isPlace(other) && one != other;
  }

  private static boolean isLoad(int load) {
    return within(load, 0, MOST_LOAD);
  }

  private static boolean isUse(int use) {
    return within(use, SOAKS, CRUMBS);
  }

  private static boolean isSheet(int sheet) {
    return within(sheet, 0, SHEETS - 1);
  }

  private static boolean isKindAndNumber(int km) {
    return within(km, 0, 10 * PIETY + 9);
  }

  private static int kindAbove(int kind) {
    return within(kind, LOAF, PIETY) ? ABOVE[kind] : -1;
  }

  private static boolean isUnder(int kind, int above) {
    int k = kind;
    for (int step = 0; step <= PIETY && k >= 0; step++) {
      if (k == above) {
        return true;
      }
      k = kindAbove(k);
    }
    return false;
  }

  private static int greatestCommon(int a, int b) {
    for (int d = b; d > 1; d--) {
      if (a % d == 0 && b % d == 0) {
        return d;
      }
    }
    return 1;
  }

  /** One bridge: a loaf of some KIND between two PLACES. */
  private static final class Span {
    int kind = LOAF;
    int m = 0;
    int one = 0;
    int other = 0;
    int age = 0;
    int wet = 0;
    boolean gone = false;

    void takeFrom(Span s) {
      kind = s.kind;
      m = s.m;
      one = s.one;
      other = s.other;
      age = s.age;
      wet = s.wet;
      gone = s.gone;
    }

    void bakeAnew() {
      age = 0;
      wet = 0;
      gone = false;
    }

    int bearsOn(int day) {
      if (gone) {
        return -1;
      }
      switch (kind) {
        case RYE: return bearsAsRye();
        case BRIOCHE: return bearsAsBrioche();
        case CART: return Math.min(40, 8 + 2 * age);
        case BARLEY: return age > 10 ? 60 + m : bearsAsRye();
        case TOAST: return bearsAsBrioche() + 2 * wet;
        case PIETY: return bearsAsLoaf() + day % 7;
        default: return bearsAsLoaf();
      }
    }

    private int bearsAsLoaf() {
      return Math.max(0, 20 - 2 * age - 3 * wet) + m;
    }

    private int bearsAsRye() {
      return bearsAsLoaf() + 10;
    }

    private int bearsAsBrioche() {
      return Math.max(0, bearsAsLoaf() - 8);
    }

    int takes() {
      int asLoaf = 5 + m;
      switch (kind) {
        case RYE: return asLoaf + 3;
        case BRIOCHE: return 2 * asLoaf;
        case BARLEY: return asLoaf + 3 - 4;
        case TOAST: return 2 * asLoaf + age % 3;
        case PIETY: return 0;
        default: return asLoaf;
      }
    }

    /** The PLACES at the two ends, as a set. */
    int ends() {
      return (1 << one) | (1 << other);
    }
  }

  /**
   * The TEXT of a USE, as the reader made it: its operands and signs in the order in which they
   * are worked out. A number stands for itself, a NAME is -1, -2 or -3, a sign less its byte.
   */
  private static final class Law {
    boolean written = false;
    int length = 0;
    final int[] code = new int[TAPE];
    final int[] open = new int[TAPE];

    void write(int[] from, int n) {
      length = held(n, 0, TAPE);
      System.arraycopy(from, 0, code, 0, length);
      written = true;
    }

    void takeFrom(Law law) {
      write(law.code, law.length);
      written = law.written;
    }

    int workOut(int a, int b, int c) {
      int top = 0;
      for (int i = 0; i < length; i++) {
        int item = code[i];
        if (item >= -3) {
          if (top < TAPE) {
            open[top] = item >= 0 ? item : item == -1 ? a : item == -2 ? b : c;
            top++;
          }
        } else if (item == -'!') {
          if (top > 0) {
            open[top - 1] = truth(open[top - 1] == 0);
          }
        } else if (top > 1) {
          top--;
          open[top - 1] = join(-item, open[top - 1], open[top]);
        }
      }
      return top > 0 ? open[top - 1] : 0;
    }

    private static int join(int sign, int left, int right) {
      switch (sign) {
        case '|': return truth(left != 0 || right != 0);
        case '&': return truth(left != 0 && right != 0);
        case '<': return truth(left < right);
        case '=': return truth(left == right);
        case '>': return truth(left > right);
        case '+': return left + right;
        case '-': return left - right;
        case '*': return left * right;
        case '/': return right == 0 ? 0 : left / right;
        default: return right == 0 ? 0 : left % right;
      }
    }

    private static int truth(boolean b) {
      return b ? 1 : 0;
    }
  }

  /**
   * Reads THE TAPE as a TEXT. The grammar can be read with one byte looked at, so the place where
   * reading stops is the first with which no TEXT goes on.
   */
  private static final class Reader {
    private static final int MOST_OPEN = 5;
    private static final int MOST_DIGITS = 4;

    final int[] code = new int[TAPE];
    int made = 0;
    int at = 0;
    private final char[] bytes = new char[TAPE];
    private int n = 0;
    private String names = SOAKS_NAMES;

    boolean reads(char[] tape, int length, int use) {
      n = held(length, 0, Math.min(TAPE, tape.length));
      System.arraycopy(tape, 0, bytes, 0, n);
      names = use == SOAKS ? SOAKS_NAMES : CRUMBS_NAMES;
      made = 0;
      at = 0;
      return readAny(0) && at == n;
    }

    /** The byte that is looked at; behind the last a sign that no TEXT has. */
    private char ahead() {
      return at >= 0 && at < n ? bytes[at] : 0;
    }

    private void make(int item) {
      if (made < TAPE) {
        code[made] = item;
        made++;
      }
    }

    private boolean readAny(int opened) {
      if (!readAll(opened)) {
        return false;
      }
      for (int turn = 0; turn < TAPE && ahead() == '|'; turn++) {
        at++;
        if (!readAll(opened)) {
          return false;
        }
        make(-'|');
      }
      return true;
    }

    private boolean readAll(int opened) {
      if (!readCompared(opened)) {
        return false;
      }
      for (int turn = 0; turn < TAPE && ahead() == '&'; turn++) {
        at++;
        if (!readCompared(opened)) {
          return false;
        }
        make(-'&');
      }
      return true;
    }

    private boolean readCompared(int opened) {
      if (!readSum(opened)) {
        return false;
      }
      char sign = ahead();
      if (sign != '<' && sign != '=' && sign != '>') {
        return true;
      }
      at++;
      if (!readSum(opened)) {
        return false;
      }
      make(-sign);
      return true;
    }

    private boolean readSum(int opened) {
      if (!readProduct(opened)) {
        return false;
      }
      for (int turn = 0; turn < TAPE && (ahead() == '+' || ahead() == '-'); turn++) {
        char sign = ahead();
        at++;
        if (!readProduct(opened)) {
          return false;
        }
        make(-sign);
      }
      return true;
    }

    private boolean readProduct(int opened) {
      if (!readOne(opened)) {
        return false;
      }
      for (int turn = 0; turn < TAPE && isOfProducts(ahead()); turn++) {
        char sign = ahead();
        at++;
        if (!readOne(opened)) {
          return false;
        }
        make(-sign);
      }
      return true;
    }

    private static boolean isOfProducts(char sign) {
      return sign == '*' || sign == '/' || sign == '%';
    }

    private boolean readOne(int opened) {
      char c = ahead();
      if (c == '!' || c == '(') {
        if (opened >= MOST_OPEN) {
          return false;
        }
        at++;
        return c == '!' ? readNot(opened + 1) : readWithin(opened + 1);
      }
      if (isDigit(c)) {
        readNumber();
        return true;
      }
      int name = names.indexOf(c);
      if (name < 0) {
        return false;
      }
      at++;
      make(-1 - name);
      return true;
    }

    private boolean readNot(int opened) {
      if (!readOne(opened)) {
        return false;
      }
      make(-'!');
      return true;
    }

    private boolean readWithin(int opened) {
      if (!readAny(opened) || ahead() != ')') {
        return false;
      }
      at++;
      return true;
    }

    private void readNumber() {
      int v = 0;
      for (int digit = 0; digit < MOST_DIGITS && isDigit(ahead()); digit++) {
        v = v * 10 + (ahead() - '0');
        at++;
      }
      make(v);
    }

    private static boolean isDigit(char c) {
      return c >= '0' && c <= '9';
    }
  }

  /** All that an IMAGE keeps; one of these stands now, one is the IMAGE, one is only thought. */
  private static final class Delta {
    final Span[] spans = new Span[SPANS];
    int many = 0;
    int rain = 0;
    int flour = 200;
    int day = 0;
    int lost = 0;
    int toll = 0;
    int z = 1;
    final Law[] laws = new Law[CRUMBS + 1];
    final char[] tape = new char[TAPE];
    int taped = 0;
    final int[] waiting = new int[WAITING];
    int waits = 0;

    Delta() {
      for (int i = 0; i < SPANS; i++) {
        spans[i] = new Span();
      }
      for (int use = SOAKS; use <= CRUMBS; use++) {
        laws[use] = new Law();
      }
    }

    void takeFrom(Delta d) {
      many = d.many;
      for (int i = 0; i < SPANS; i++) {
        spans[i].takeFrom(d.spans[i]);
      }
      rain = d.rain;
      flour = d.flour;
      day = d.day;
      lost = d.lost;
      toll = d.toll;
      z = d.z;
      for (int use = SOAKS; use <= CRUMBS; use++) {
        laws[use].takeFrom(d.laws[use]);
      }
      System.arraycopy(d.tape, 0, tape, 0, TAPE);
      taped = d.taped;
      System.arraycopy(d.waiting, 0, waiting, 0, WAITING);
      waits = d.waits;
    }

    boolean hasSpan(int span) {
      return within(span, 0, many - 1);
    }

    /** There is room for one more: the caller has looked. */
    int addSpan(int km, int one, int other) {
      Span s = spans[many];
      s.bakeAnew();
      s.kind = km / 10;
      s.m = km % 10;
      s.one = one;
      s.other = other;
      many++;
      return many - 1;
    }

    /** There is room for n bytes: the caller has looked. */
    int addToTape(long word, int n) {
      for (int i = 0; i < n; i++) {
        tape[taped] = (char) ((word >>> (8 * i)) & 255L);
        taped++;
      }
      return taped;
    }

    int gives(int use, int a, int b, int c) {
      if (use == SOAKS) {
        int soaks = laws[SOAKS].written ? laws[SOAKS].workOut(a, b, c) : a > 0 ? 1 : -1;
        return held(soaks, -9, 9);
      }
      int crumbs = laws[CRUMBS].written ? laws[CRUMBS].workOut(a, b, c) : a / 10 + 1;
      return held(crumbs, 0, 99);
    }

    /** Answers the crumbs, or -1: it breaks. */
    int carryOver(Span s, int load) {
      int bears = s.bearsOn(day);
      if (bears < load) {
        s.gone = true;
        lost = Math.min(MOST_COUNTED, lost + load);
        return -1;
      }
      int crumbs = gives(CRUMBS, load, bears, s.m);
      toll = Math.min(MOST_COUNTED, toll + crumbs);
      return crumbs;
    }

    void passDay() {
      for (int i = 0; i < many; i++) {
        Span s = spans[i];
        s.wet = held(s.wet + gives(SOAKS, rain, s.wet, s.kind), 0, MOST_WET);
        s.age = Math.min(MOST_AGE, s.age + 1);
      }
      day++;
    }

    /** Answers 1 if a SPAN broke, else 0. */
    int passDayByDraws() {
      rain = Math.max(0, draw() % 16 - 6);
      int broke = 0;
      if (many > 0) {
        Span s = spans[draw() % many];
        int load = draw() % 30;
        if (!s.gone && carryOver(s, load) < 0) {
          broke = 1;
        }
      }
      passDay();
      return broke;
    }

    private int draw() {
      z = z * 1103515245 + 12345;
      return z >>> 8;
    }

    /** The SPANS that BEAR a load, as a set. */
    int bearing(int load) {
      int set = 0;
      for (int i = 0; i < many; i++) {
        if (spans[i].bearsOn(day) >= load) {
          set |= 1 << i;
        }
      }
      return set;
    }

    /** The PLACES to which one gets over the SPANS of a set. */
    int reachOver(int place, int set) {
      int reached = 1 << place;
      for (int round = 0; round < PLACES; round++) {
        int before = reached;
        for (int i = 0; i < many; i++) {
          int ends = spans[i].ends();
          if (((set >> i) & 1) == 1 && (reached & ends) != 0) {
            reached |= ends;
          }
        }
        if (reached == before) {
          break;
        }
      }
      return reached;
    }

    boolean joins(int one, int other, int set) {
      return ((reachOver(one, set) >> other) & 1) == 1;
    }

    int flourFor(int set) {
      int flourNeeded = 0;
      for (int i = 0; i < many; i++) {
        if (((set >> i) & 1) == 1) {
          flourNeeded += spans[i].takes();
        }
      }
      return flourNeeded;
    }

    void bakeAllAnew() {
      for (int i = 0; i < many; i++) {
        spans[i].bakeAnew();
      }
    }

    /** How many numbers of a SHEET are what the SPANS BEAR, from the first on. */
    int rightOnes(Sheet s) {
      for (int i = 0; i < s.n; i++) {
        if (!hasSpan(i) || spans[i].bearsOn(day) != s.numbers[i]) {
          return i;
        }
      }
      return s.n;
    }
  }

  /** The VOICES of one SPAN at a time, and THE TRACE of the BODIES that began. */
  private static final class Voices {
    /** Far more than stand open at once: from one KIND to LOAF, through all four VOICES. */
    private static final int MOST_OPEN = 40;

    final int[] trace = new int[TRACE];
    int traced = 0;
    boolean parted = false;
    private int kind = LOAF;
    private int m = 0;
    private int k = 0;

    int speak(Span s, int number, int voice, int x) {
      kind = s.kind;
      m = s.m;
      k = number;
      traced = 0;
      parted = false;
      return say(kind, voice, x, 0);
    }

    /** The BODY of a KIND, or of the next KIND above that has one. */
    private int say(int from, int voice, int x, int opened) {
      if (opened > MOST_OPEN || !within(voice, CRUSTS, PARTS)) {
        return 0;
      }
      int of = from;
      for (int step = 0; step <= PIETY && within(of, LOAF, PIETY); step++) {
        int body = BODIES[4 * of + voice];
        if (body != 0) {
          return begin(body, kindAbove(of), x, opened + 1);
        }
        of = kindAbove(of);
      }
      return 0;
    }

    private int begin(int body, int above, int x, int opened) {
      // What stands behind a BODY that parted never begins.
      if (parted) {
        return 0;
      }
      if (traced < TRACE) {
        trace[traced] = body;
        traced++;
      }
      switch (body) {
        case 10: return x + k;
        case 11: return say(kind, CRUSTS, x, opened) * 2;
        case 12: return say(kind, STEAMS, x, opened) - m;
        case 13: return part(x, m - k);
        case 20: return say(above, CRUSTS, x, opened) - 4;
        case 21: {
          int first = say(above, PARTS, x, opened);
          return first + say(kind, STEAMS, 1, opened);
        }
        case 30: return 0 - say(above, STEAMS, x, opened);
        case 40: return say(above, CRUMBLES, x / 2, opened);
        case 50: return say(above, CRUSTS, x, opened) * 3;
        case 51: return say(above, CRUMBLES, x, opened) ^ k;
        case 60: return say(above, STEAMS, x + 1, opened);
        case 70: return 9;
        default: return say(above, STEAMS, x, opened) + m;
      }
    }

    private int part(int x, int by) {
      if (by == 0) {
        parted = true;
        return 0;
      }
      return x / by;
    }
  }

  /** A row of numbers of 8, 16 or 32 bits, held as ints with their sign; 0 bits: missing. */
  private static final class Sheet {
    int bits = 0;
    int n = 0;
    final int[] numbers = new int[SHEET];

    boolean isMissing() {
      return bits == 0;
    }

    void renew(int newBits, int newN) {
      bits = newBits;
      n = newN;
      for (int i = 0; i < SHEET; i++) {
        numbers[i] = 0;
      }
    }

    void write(int i, int v) {
      numbers[i] = bits == 8 ? (byte) v : bits == 16 ? (short) v : v;
    }

    boolean hasRow(int i, int many) {
      return i >= 0 && many >= 0 && many <= n && i <= n - many;
    }
  }
}
