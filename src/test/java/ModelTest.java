import java.lang.reflect.Method;
import java.util.ArrayList;
import java.util.Arrays;
import java.util.HashMap;
import java.util.List;
import java.util.Map;
import java.util.TreeMap;

/**
 * Runs of 500 calls on BreadSpans and on a model that is written apart from it and in another way;
 * each answer is compared. The calls are drawn, but the same ones each time.
 */
public final class ModelTest {
  private static final int RUNS = 400;
  private static final int CALLS = 500;

  private static final Map<String, Method> FACE = new TreeMap<>();
  private static final Map<String, Method> MODEL = new HashMap<>();
  private static final List<String> NAMES = new ArrayList<>();

  private static long drawn;
  private static BreadSpans program;
  private static Model model;
  private static List<String> log;
  private static int[] errorsSeen;
  private static Map<String, Integer> goodAnswers = new TreeMap<>();

  public static void main(String[] args) throws Exception {
    for (Method m : BreadSpans.class.getDeclaredMethods()) {
      if ((m.getModifiers() & java.lang.reflect.Modifier.PUBLIC) != 0) {
        FACE.put(m.getName(), m);
        MODEL.put(m.getName(), Model.class.getDeclaredMethod(m.getName(), m.getParameterTypes()));
      }
    }
    NAMES.addAll(FACE.keySet());
    errorsSeen = new int[8];
    for (int run = 0; run < RUNS; run++) {
      if (!isRunDue(run)) {
        System.exit(1);
      }
    }
    System.out.println(RUNS + " runs of " + CALLS + " calls are as the model has them");
    System.out.println("ERRORS by number: " + Arrays.toString(errorsSeen) + ", others: " + goodAnswers);
    if (isTooThin()) {
      System.exit(1);
    }
  }

  /** A drawing that never reaches an ERROR or a good answer would show nothing. */
  private static boolean isTooThin() {
    boolean thin = goodAnswers.size() < NAMES.size();
    for (int k = 1; k <= 6; k++) {
      thin |= errorsSeen[k] == 0;
    }
    if (thin) {
      System.out.println("the runs leave something out");
    }
    return thin;
  }

  private static boolean isRunDue(int run) throws Exception {
    drawn = run * 7919L + 1;
    program = new BreadSpans();
    model = new Model();
    log = new ArrayList<>();
    boolean due = true;
    int start = below(10);
    for (int i = 0; i < start && due; i++) {
      due = call("span", below(70), below(8), below(8));
    }
    while (due && log.size() < CALLS) {
      int sort = below(12);
      if (sort == 0) {
        due = newText(below(2));
      } else if (sort == 1) {
        due = tellAges();
      } else if (sort == 2) {
        due = writeSheet();
      } else {
        due = anyCall();
      }
    }
    if (!due) {
      System.out.println("run " + run + ":");
      for (String line : log) {
        System.out.println("  " + line);
      }
    }
    return due;
  }

  private static boolean call(String name, Object... args) throws Exception {
    Object got = FACE.get(name).invoke(program, args);
    Object want = MODEL.get(name).invoke(model, args);
    String line = name + Arrays.toString(args) + " = " + got;
    int answer = (Integer) got;
    if (answer < -1000000000 && answer >= -1000000006) {
      errorsSeen[-1000000000 - answer]++;
    } else {
      goodAnswers.merge(name, 1, Integer::sum);
    }
    if (!got.equals(want)) {
      log.add(line + ", by the model " + want);
      return false;
    }
    log.add(line);
    return true;
  }

  private static int below(int n) {
    drawn = drawn * 6364136223846793005L + 1442695040888963407L;
    return (int) ((drawn >>> 33) % n);
  }

  private static int anyInt() {
    int[] edges = {
      Integer.MIN_VALUE, Integer.MIN_VALUE + 1, -1, 0, 1, Integer.MAX_VALUE - 1, Integer.MAX_VALUE
    };
    int sort = below(4);
    return sort == 0 ? edges[below(7)] : sort == 1 ? below(1 << 30) * 4 + below(4) : below(200) - 100;
  }

  // ---- calls that are drawn

  private static boolean anyCall() throws Exception {
    String name = NAMES.get(below(NAMES.size()));
    Class<?>[] types = FACE.get(name).getParameterTypes();
    Object[] args = new Object[types.length];
    for (int i = 0; i < args.length; i++) {
      if (types[i] == long.class) {
        args[i] = anyInt() * 4294967296L + anyInt();
      } else {
        args[i] = below(40) == 0 ? anyInt() : likely(name, i);
      }
    }
    if (name.equals("restore") && below(3) != 0) {
      return true;
    }
    return call(name, args);
  }

  private static int likely(String name, int i) {
    switch (name) {
      case "span": return i == 0 ? below(71) : below(9) - below(2);
      case "spanIs": return i == 0 ? aSpan() : below(10);
      case "become": return i == 0 ? aSpan() : below(72) - 1;
      case "as": return i == 0 ? aSpan() : below(8);
      case "soak": return i == 0 ? aSpan() : below(12) - 1;
      case "bakes": case "eat": return aSpan();
      case "store": return i == 0 ? below(3) : below(2) == 0 ? below(12) - 1 : below(10200) - 1;
      case "cross": return i == 0 ? aSpan() : below(4) == 0 ? below(103) - 1 : below(30);
      case "feed": return below(10);
      case "text": case "untell": return below(3);
      case "law": return i == 0 ? below(3) : anyInt();
      case "days": return below(5) == 0 ? below(63) - 1 : 1 + below(4);
      case "loose": return below(5) == 0 ? below(33) - 1 : 1 + below(3);
      case "seed": return anyInt();
      case "joined": return i == 0 ? below(9) : aLoad();
      case "load": return below(8);
      case "baking": case "eating": case "lasts": case "odds":
        return i < 2 ? below(8) : i == 2 ? aLoad() : below(10) == 0 ? below(4) - 1 : below(2);
      case "then": return i == 0 ? aSpan() : below(63) - 1;
      case "fits": case "soaks": case "judge": return below(5);
      case "voice": return i == 0 ? aSpan() : i == 1 ? below(5) : anyInt();
      case "body": return below(8) - 1;
      case "sheet": return i == 0 ? below(5) : i == 1 ? 8 * below(5) : below(27) - 1;
      case "put": return i == 0 ? below(5) : i == 1 ? below(10) : anyInt();
      case "move": return i == 0 || i == 2 ? below(5) : below(8) - 1 + below(2) * below(2);
      case "tell": return anyInt();
      case "count": return below(11);
      default: return below(9) - 1;
    }
  }

  private static int aSpan() {
    return below(12) == 0 ? below(12) - 1 : below(Math.max(1, model.spans.size()));
  }

  private static int aLoad() {
    return below(12) == 0 ? below(104) - 2 : below(36);
  }

  private static boolean newText(int use) throws Exception {
    boolean due = true;
    while (due && model.tape.length() > 0) {
      due = call("text", use);
    }
    String s = aText(use);
    for (int at = 0; due && at < s.length(); ) {
      int n = Math.min(1 + below(8), s.length() - at);
      long word = anyInt() * 4294967296L + anyInt();
      for (int i = 0; i < n; i++) {
        word = word & ~(255L << 8 * i) | (long) s.charAt(at + i) << 8 * i;
      }
      at += n;
      due = call("feed", word, n);
    }
    due = due && call("text", use);
    for (int i = 0; due && i < 3; i++) {
      due = call("law", use, anyInt(), anyInt(), anyInt());
    }
    return due;
  }

  private static String aText(int use) {
    String names = use == 0 ? "rwk" : "lbm";
    String s = anyT(names, 2 + below(3), 0);
    if (s.length() > 60) {
      s = s.substring(0, 60);
    }
    int changes = below(2) * below(3);
    String signs = "rwklbm0123456789+-*/%<=>&|!() ";
    for (int i = 0; i < changes && s.length() > 1; i++) {
      int at = below(s.length());
      int sort = below(3);
      String sign = "" + (below(30) == 0 ? (char) below(256) : signs.charAt(below(signs.length())));
      s = s.substring(0, at) + (sort == 0 ? "" : sign) + s.substring(sort == 1 ? at : at + 1);
    }
    return s.length() > 60 ? s.substring(0, 60) : s;
  }

  private static String anyT(String names, int depth, int open) {
    if (depth <= 0) {
      int sort = below(6);
      if (sort < 3) {
        return "" + names.charAt(below(3));
      }
      return sort == 3 ? "" + below(10000) : "" + below(10);
    }
    int sort = below(14);
    if (sort < 10) {
      String sign = "" + "+-*/%<=>&|".charAt(sort);
      return anyT(names, depth - 1 - below(2), open) + sign + anyT(names, depth - 1 - below(2), open);
    }
    return sort < 12 ? "!" + anyT(names, depth - 1, open + 1) : "(" + anyT(names, depth, open + 1) + ")";
  }

  private static boolean tellAges() throws Exception {
    boolean due = true;
    int wrongAt = below(2) == 0 ? below(9) : -1;
    int n = below(model.spans.size() + 2);
    for (int i = 0; due && i < n; i++) {
      int age = i < model.spans.size() ? model.spans.get(i).age : below(3);
      due = call("tell", i == wrongAt ? age + below(3) - 1 : age);
    }
    return due && call("check");
  }

  /** A SHEET that tells what the SPANS BEAR behind some days, or how wet they might be. */
  private static boolean writeSheet() throws Exception {
    int sheet = below(4);
    int n = below(model.spans.size() + 2);
    boolean due = call("sheet", sheet, 8 << below(3), n);
    int days = below(12);
    boolean bears = below(2) == 0;
    for (int i = 0; due && i < n; i++) {
      int v = !bears || i >= model.spans.size() ? below(11) : model.then(i, days);
      due = call("put", sheet, i, v);
    }
    due = due && call(bears ? "fits" : "soaks", sheet) && call("judge", sheet);
    return due && call("move", sheet, below(4), below(4), below(4), below(6));
  }

  // ---- the model

  private static final class Parting extends RuntimeException {
    private static final long serialVersionUID = 1L;
  }

  private static final class Bridge implements Cloneable {
    int kind, m, one, other, age, wet;
    boolean gone;

    Bridge copy() {
      Bridge b = new Bridge();
      b.kind = kind;
      b.m = m;
      b.one = one;
      b.other = other;
      b.age = age;
      b.wet = wet;
      b.gone = gone;
      return b;
    }

    int bears(int day) {
      if (gone) {
        return -1;
      }
      int dry = 20 - 2 * age - 3 * wet;
      int loaf = (dry < 0 ? 0 : dry) + m;
      int brioche = loaf < 8 ? 0 : loaf - 8;
      int rye = loaf + 10;
      int cart = 8 + age + age > 40 ? 40 : 8 + age + age;
      int barley = age >= 11 ? 60 + m : rye;
      return new int[] {loaf, rye, brioche, cart, barley, brioche + wet + wet, loaf + day % 7}[kind];
    }

    int takes() {
      int loaf = 5 + m;
      return new int[] {loaf, loaf + 3, 2 * loaf, loaf, loaf - 1, 2 * loaf + age % 3, 0}[kind];
    }
  }

  private static class Loaf {
    final List<Integer> trace;
    final int k;
    final int m;

    Loaf(List<Integer> trace, int k, int m) {
      this.trace = trace;
      this.k = k;
      this.m = m;
    }

    int crusts(int x) {
      trace.add(10);
      return x + k;
    }

    int steams(int x) {
      trace.add(11);
      return crusts(x) * 2;
    }

    int crumbles(int x) {
      trace.add(12);
      return steams(x) - m;
    }

    int parts(int x) {
      trace.add(13);
      if (m == k) {
        throw new Parting();
      }
      return (int) ((long) x / (m - k));
    }
  }

  private static class Rye extends Loaf {
    Rye(List<Integer> trace, int k, int m) {
      super(trace, k, m);
    }

    @Override int crusts(int x) {
      trace.add(20);
      return super.crusts(x) - 4;
    }

    @Override int parts(int x) {
      trace.add(21);
      return super.parts(x) + steams(1);
    }
  }

  private static class Brioche extends Loaf {
    Brioche(List<Integer> trace, int k, int m) {
      super(trace, k, m);
    }

    @Override int steams(int x) {
      trace.add(30);
      return 0 - super.steams(x);
    }
  }

  private static final class Cart extends Loaf {
    Cart(List<Integer> trace, int k, int m) {
      super(trace, k, m);
    }

    @Override int crumbles(int x) {
      trace.add(40);
      return super.crumbles(x / 2);
    }
  }

  private static final class Barley extends Rye {
    Barley(List<Integer> trace, int k, int m) {
      super(trace, k, m);
    }

    @Override int crusts(int x) {
      trace.add(50);
      return super.crusts(x) * 3;
    }

    @Override int crumbles(int x) {
      trace.add(51);
      return super.crumbles(x) ^ k;
    }
  }

  private static final class Toast extends Brioche {
    Toast(List<Integer> trace, int k, int m) {
      super(trace, k, m);
    }

    @Override int steams(int x) {
      trace.add(60);
      return super.steams(x + 1);
    }
  }

  private static final class Piety extends Loaf {
    Piety(List<Integer> trace, int k, int m) {
      super(trace, k, m);
    }

    @Override int crusts(int x) {
      trace.add(70);
      return 9;
    }

    @Override int steams(int x) {
      trace.add(71);
      return super.steams(x) + m;
    }
  }

  /** A text: whether it can be read, the fault, and what it gives. */
  private static final class Told {
    final String s;
    final String names;
    int furthest = 0;
    final Map<String, List<Integer>> known = new HashMap<>();

    Told(String s, String names) {
      this.s = s;
      this.names = names;
    }

    boolean isText() {
      return ends("T", 0, 0).contains(s.length());
    }

    boolean isSign(String signs, int at) {
      boolean is = at < s.length() && signs.indexOf(s.charAt(at)) >= 0;
      if (!is) {
        furthest = Math.max(furthest, at);
      }
      return is;
    }

    /** All places at which what begins here may end. */
    List<Integer> ends(String what, int at, int open) {
      String key = what + at + "," + open;
      List<Integer> found = known.get(key);
      if (found == null) {
        found = new ArrayList<>();
        known.put(key, found);
        switch (what) {
          case "T": row(found, "A", "|", at, open); break;
          case "A": row(found, "B", "&", at, open); break;
          case "B": compared(found, at, open); break;
          case "S": row(found, "P", "+-", at, open); break;
          case "P": row(found, "Q", "*/%", at, open); break;
          default: one(found, at, open); break;
        }
      }
      return found;
    }

    static void put(List<Integer> found, int end) {
      if (!found.contains(end)) {
        found.add(end);
      }
    }

    void row(List<Integer> found, String of, String signs, int at, int open) {
      for (int end : ends(of, at, open)) {
        put(found, end);
      }
      for (int i = 0; i < found.size(); i++) {
        int end = found.get(i);
        if (isSign(signs, end)) {
          for (int next : ends(of, end + 1, open)) {
            put(found, next);
          }
        }
      }
    }

    void compared(List<Integer> found, int at, int open) {
      for (int end : ends("S", at, open)) {
        put(found, end);
        if (isSign("<=>", end)) {
          for (int next : ends("S", end + 1, open)) {
            put(found, next);
          }
        }
      }
    }

    void one(List<Integer> found, int at, int open) {
      for (int n = 0; n < 4 && isSign("0123456789", at + n); n++) {
        put(found, at + n + 1);
      }
      if (isSign(names, at)) {
        put(found, at + 1);
      }
      if (open < 5 && isSign("!", at)) {
        for (int end : ends("Q", at + 1, open + 1)) {
          put(found, end);
        }
      }
      if (open < 5 && isSign("(", at)) {
        for (int end : ends("T", at + 1, open + 1)) {
          if (isSign(")", end)) {
            put(found, end + 1);
          }
        }
      }
    }

    /** What a text gives, by the sign that is worked out last. */
    static int gives(String s, String names, int[] values) {
      for (String signs : new String[] {"|", "&", "<=>", "+-", "*/%"}) {
        int open = 0;
        for (int i = s.length() - 1; i >= 0; i--) {
          char c = s.charAt(i);
          open += c == ')' ? 1 : c == '(' ? -1 : 0;
          if (open == 0 && signs.indexOf(c) >= 0) {
            long left = gives(s.substring(0, i), names, values);
            long right = gives(s.substring(i + 1), names, values);
            return (int) joined(c, left, right);
          }
        }
      }
      char first = s.charAt(0);
      if (first == '!') {
        return gives(s.substring(1), names, values) == 0 ? 1 : 0;
      }
      if (first == '(') {
        return gives(s.substring(1, s.length() - 1), names, values);
      }
      int name = names.indexOf(first);
      return name >= 0 ? values[name] : Integer.parseInt(s);
    }

    static long joined(char c, long left, long right) {
      switch (c) {
        case '|': return left == 0 && right == 0 ? 0 : 1;
        case '&': return left == 0 || right == 0 ? 0 : 1;
        case '<': return left < right ? 1 : 0;
        case '=': return left == right ? 1 : 0;
        case '>': return left > right ? 1 : 0;
        case '+': return left + right;
        case '-': return left - right;
        case '*': return left * right;
        case '/': return right == 0 ? 0 : left / right;
        default: return right == 0 ? 0 : left % right;
      }
    }
  }

  /** The document once more, in objects that are thrown away. */
  private static final class Model {
    List<Bridge> spans = new ArrayList<>();
    int rain = 0, flour = 200, day = 0, lost = 0, toll = 0, z = 1;
    String[] texts = new String[2];
    String tape = "";
    List<Integer> waiting = new ArrayList<>();

    List<Integer> trace = new ArrayList<>();
    int[][] sheets = new int[4][];
    int[] bits = new int[4];
    int[] errors = new int[7];
    int images = 0;
    Model kept = null;

    Model copy() {
      Model c = new Model();
      c.takeFrom(this);
      return c;
    }

    void takeFrom(Model o) {
      spans = new ArrayList<>();
      for (Bridge b : o.spans) {
        spans.add(b.copy());
      }
      rain = o.rain;
      flour = o.flour;
      day = o.day;
      lost = o.lost;
      toll = o.toll;
      z = o.z;
      texts = o.texts.clone();
      tape = o.tape;
      waiting = new ArrayList<>(o.waiting);
    }

    int err(int k) {
      errors[k]++;
      return -1000000000 - k;
    }

    static boolean in(int v, int low, int high) {
      return low <= v && v <= high;
    }

    boolean is(int span) {
      return in(span, 0, spans.size() - 1);
    }

    static boolean two(int one, int other) {
      return in(one, 0, 7) && in(other, 0, 7) && one != other;
    }

    static int hold(long v, int low, int high) {
      return (int) (v < low ? low : v > high ? high : v);
    }

    int span(int km, int one, int other) {
      if (!in(km, 0, 69) || !two(one, other)) return err(1);
      if (spans.size() == 9) return err(4);
      Bridge b = new Bridge();
      b.kind = km / 10;
      b.m = km % 10;
      b.one = one;
      b.other = other;
      spans.add(b);
      return spans.size() - 1;
    }

    int spanIs(int span, int what) {
      if (!is(span) || !in(what, 0, 8)) return err(1);
      Bridge b = spans.get(span);
      return new int[] {
        b.kind, b.m, b.one, b.other, b.age, b.wet, b.gone ? 1 : 0, b.bears(day), b.takes()
      }[what];
    }

    int become(int span, int km) {
      if (!is(span) || !in(km, 0, 69)) return err(1);
      Bridge b = spans.get(span);
      int was = b.kind;
      b.kind = km / 10;
      b.m = km % 10;
      return was;
    }

    int as(int span, int kind) {
      if (!is(span) || !in(kind, 0, 6)) return err(1);
      String[] kinds = {"0", "10", "20", "30", "410", "520", "60"};
      return kinds[spans.get(span).kind].indexOf('0' + kind) < 0 ? err(5) : spans.get(span).m;
    }

    int soak(int span, int wet) {
      if (!is(span) || !in(wet, 0, 9)) return err(1);
      int was = spans.get(span).wet;
      spans.get(span).wet = wet;
      return was;
    }

    int bakes(int span) {
      if (!is(span)) return err(1);
      int takes = spans.get(span).takes();
      if (takes > flour) return err(3);
      flour -= takes;
      bake(spans.get(span));
      return takes;
    }

    static void bake(Bridge b) {
      b.age = 0;
      b.wet = 0;
      b.gone = false;
    }

    int eat(int span) {
      if (!is(span)) return err(1);
      int was = spans.get(span).gone ? 1 : 0;
      spans.get(span).gone = true;
      return was;
    }

    int store(int what, int v) {
      if (what == 0 && in(v, 0, 9999)) {
        int was = flour;
        flour = v;
        return was;
      }
      if (what == 1 && in(v, 0, 9)) {
        int was = rain;
        rain = v;
        return was;
      }
      return err(1);
    }

    int cross(int span, int load) {
      if (!is(span) || !in(load, 0, 99)) return err(1);
      return spans.get(span).gone ? err(3) : crossed(spans.get(span), load);
    }

    int crossed(Bridge b, int load) {
      if (b.bears(day) >= load) {
        int crumbs = gives(1, load, b.bears(day), b.m);
        toll = hold(toll + crumbs, 0, 99999);
        return crumbs;
      }
      b.gone = true;
      lost = hold(lost + load, 0, 99999);
      return -1;
    }

    int feed(long word, int n) {
      if (!in(n, 1, 8)) return err(1);
      if (tape.length() + n > 60) return err(4);
      for (int i = 0; i < n; i++) {
        tape += (char) (word & 255);
        word >>= 8;
      }
      return tape.length();
    }

    static String names(int use) {
      return use == 0 ? "rwk" : "lbm";
    }

    int text(int use) {
      if (!in(use, 0, 1)) return err(1);
      Told told = new Told(tape, names(use));
      boolean is = told.isText();
      if (is) {
        texts[use] = tape;
      }
      tape = "";
      return is ? 1 : -10 - told.furthest;
    }

    int untell(int use) {
      if (!in(use, 0, 1)) return err(1);
      int was = texts[use] == null ? 0 : 1;
      texts[use] = null;
      return was;
    }

    int law(int use, int a, int b, int c) {
      return in(use, 0, 1) ? gives(use, a, b, c) : err(1);
    }

    int gives(int use, int a, int b, int c) {
      long v;
      if (texts[use] != null) {
        v = Told.gives(texts[use], names(use), new int[] {a, b, c});
      } else {
        v = use == 0 ? (a > 0 ? 1 : -1) : a / 10 + 1L;
      }
      return use == 0 ? hold(v, -9, 9) : hold(v, 0, 99);
    }

    Model aDay() {
      for (Bridge b : spans) {
        b.wet = hold(b.wet + gives(0, rain, b.wet, b.kind), 0, 9);
        b.age = hold(b.age + 1, 0, 99);
      }
      day++;
      return this;
    }

    int days(int n) {
      if (!in(n, 1, 60)) return err(1);
      if (day + n > 9999) return err(3);
      for (int i = 0; i < n; i++) {
        aDay();
      }
      return day;
    }

    int draw() {
      z = (int) (z * 1103515245L + 12345L);
      return (int) ((z & 0xFFFFFFFFL) / 256);
    }

    int loose(int n) {
      if (!in(n, 1, 30)) return err(1);
      if (day + n > 9999) return err(3);
      int gone = 0;
      for (int i = 0; i < n; i++) {
        rain = hold(draw() % 16 - 6, 0, 9);
        if (!spans.isEmpty()) {
          Bridge b = spans.get(draw() % spans.size());
          int load = draw() % 30;
          gone -= b.gone ? 0 : Math.min(0, crossed(b, load));
        }
        aDay();
      }
      return gone;
    }

    int seed(int v) {
      int was = z;
      z = v;
      return was;
    }

    boolean[][] ways(int load, int without) {
      boolean[][] way = new boolean[8][8];
      for (int p = 0; p < 8; p++) {
        way[p][p] = true;
      }
      for (int i = 0; i < spans.size(); i++) {
        Bridge b = spans.get(i);
        if (b.bears(day) >= load && (without >> i) % 2 == 0) {
          way[b.one][b.other] = true;
          way[b.other][b.one] = true;
        }
      }
      for (int over = 0; over < 8; over++) {
        for (int p = 0; p < 8; p++) {
          for (int q = 0; q < 8; q++) {
            way[p][q] |= way[p][over] && way[over][q];
          }
        }
      }
      return way;
    }

    boolean way(int one, int other, int load) {
      return ways(load, 0)[one][other];
    }

    int joined(int place, int load) {
      if (!in(place, 0, 7) || !in(load, 0, 99)) return err(1);
      int set = 0;
      boolean[] to = ways(load, 0)[place];
      for (int p = 0; p < 8; p++) {
        set += to[p] ? 1 << p : 0;
      }
      return set;
    }

    int load(int one, int other) {
      if (!two(one, other)) return err(1);
      int most = -1;
      while (most < 99 && way(one, other, most + 1)) {
        most++;
      }
      return most < 0 ? err(2) : most;
    }

    int baking(int one, int other, int load, int what) {
      if (!two(one, other) || !in(load, 0, 99) || !in(what, 0, 1)) return err(1);
      long best = Long.MAX_VALUE;
      for (int set = 0; set < 1 << spans.size(); set++) {
        Model baked = copy();
        long flourOfSet = 0;
        for (int i = 0; i < spans.size(); i++) {
          if ((set >> i) % 2 == 1) {
            flourOfSet += spans.get(i).takes();
            bake(baked.spans.get(i));
          }
        }
        long rank = flourOfSet * 1024 + set;
        if (rank < best && baked.way(one, other, load)) {
          best = rank;
        }
      }
      return best == Long.MAX_VALUE ? err(2) : (int) (what == 0 ? best / 1024 : best % 1024);
    }

    int eating(int one, int other, int load, int what) {
      if (!two(one, other) || !in(load, 0, 99) || !in(what, 0, 1)) return err(1);
      int best = Integer.MAX_VALUE;
      for (int set = 0; set < 1 << spans.size(); set++) {
        int rank = Integer.bitCount(set) * 1024 + set;
        if (rank < best && !ways(load, set)[one][other]) {
          best = rank;
        }
      }
      return what == 0 ? best / 1024 : best % 1024;
    }

    int lasts(int one, int other, int load) {
      if (!two(one, other) || !in(load, 0, 99)) return err(1);
      Model later = copy();
      for (int n = 0; n <= 60; n++, later.aDay()) {
        if (!later.way(one, other, load)) return n;
      }
      return err(2);
    }

    int then(int span, int n) {
      if (!is(span) || !in(n, 0, 60)) return err(1);
      Model later = copy();
      while (later.day < day + n) {
        later.aDay();
      }
      return later.spans.get(span).bears(later.day);
    }

    int odds(int one, int other, int load, int part) {
      if (!two(one, other) || !in(load, 0, 99) || !in(part, 0, 1)) return err(1);
      int good = 0;
      for (int r = 0; r < 10; r++) {
        Model later = copy();
        later.rain = r;
        good += later.aDay().way(one, other, load) ? 1 : 0;
      }
      int[] above = {0, 1, 1, 3, 2, 1, 3, 7, 4, 9, 1};
      int[] below = {1, 10, 5, 10, 5, 2, 5, 10, 5, 10, 1};
      return part == 0 ? above[good] : below[good];
    }

    int right(int[] numbers) {
      int n = 0;
      while (n < numbers.length && is(n) && spans.get(n).bears(day) == numbers[n]) {
        n++;
      }
      return n;
    }

    int fits(int sheet) {
      if (!in(sheet, 0, 3)) return err(1);
      if (sheets[sheet] == null) return err(2);
      Model later = copy();
      for (int n = 0; n <= 60; n++, later.aDay()) {
        if (later.right(sheets[sheet]) == sheets[sheet].length) return n;
      }
      return err(2);
    }

    int voice(int span, int voice, int x) {
      if (!is(span) || !in(voice, 0, 3)) return err(1);
      trace.clear();
      int m = spans.get(span).m;
      Loaf loaf = new Loaf[] {
        new Loaf(trace, span, m), new Rye(trace, span, m), new Brioche(trace, span, m),
        new Cart(trace, span, m), new Barley(trace, span, m), new Toast(trace, span, m),
        new Piety(trace, span, m)
      }[spans.get(span).kind];
      try {
        switch (voice) {
          case 0: return loaf.crusts(x);
          case 1: return loaf.steams(x);
          case 2: return loaf.crumbles(x);
          default: return loaf.parts(x);
        }
      } catch (Parting parting) {
        return err(6);
      }
    }

    int body(int i) {
      return in(i, 0, trace.size() - 1) ? trace.get(i) : err(2);
    }

    int sheet(int sheet, int bits, int n) {
      if (!in(sheet, 0, 3) || !in(bits, 0, 32) || bits % 8 != 0 || bits == 24) return err(1);
      if (bits != 0 && n < 0) return err(3);
      if (bits != 0 && n > 24) return err(1);
      this.bits[sheet] = bits;
      sheets[sheet] = bits == 0 ? null : new int[n];
      return 1;
    }

    int put(int sheet, int i, int v) {
      if (!in(sheet, 0, 3)) return err(1);
      if (sheets[sheet] == null) return err(2);
      if (!in(i, 0, sheets[sheet].length - 1)) return err(1);
      int above = 32 - bits[sheet];
      sheets[sheet][i] = v << above >> above;
      return 1;
    }

    int move(int sheet, int i, int other, int j, int n) {
      if (!in(sheet, 0, 3) || !in(other, 0, 3)) return err(1);
      if (sheets[sheet] == null || sheets[other] == null) return err(2);
      if (bits[sheet] != bits[other]) return err(5);
      if (i < 0 || j < 0 || n < 0 || (long) i + n > sheets[sheet].length
          || (long) j + n > sheets[other].length) return err(1);
      int[] were = sheets[sheet].clone();
      for (int a = 0; a < n; a++) {
        sheets[other][j + a] = were[i + a];
      }
      return n;
    }

    int soaks(int sheet) {
      if (!in(sheet, 0, 3)) return err(1);
      if (sheets[sheet] == null) return err(2);
      int n = 0;
      for (int v : sheets[sheet]) {
        if (!is(n) || !in(v, 0, 9)) break;
        spans.get(n++).wet = v;
      }
      return n;
    }

    int judge(int sheet) {
      if (!in(sheet, 0, 3)) return err(1);
      return sheets[sheet] == null ? err(2) : right(sheets[sheet]);
    }

    int image() {
      kept = copy();
      return ++images;
    }

    int restore() {
      if (kept == null) return err(2);
      takeFrom(kept);
      return day;
    }

    int tell(int v) {
      if (waiting.size() == 24) return err(4);
      waiting.add(v);
      return waiting.size();
    }

    int check() {
      List<Integer> numbers = waiting;
      waiting = new ArrayList<>();
      for (int i = 0; i < numbers.size(); i++) {
        if (!is(i) || spans.get(i).age != numbers.get(i)) return i + 1;
      }
      return 0;
    }

    int count(int what) {
      if (!in(what, 0, 9)) return err(1);
      return new int[] {
        spans.size(), day, rain, flour, lost, toll, tape.length(), waiting.size(), trace.size(), z
      }[what];
    }

    int told(int k) {
      return in(k, 1, 6) ? errors[k] : err(1);
    }
  }
}
