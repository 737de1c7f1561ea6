import java.util.ArrayList;
import java.util.List;

/**
 * The document's promises, sentence by sentence: what is taken at the edges, what is refused just
 * beyond them, and that a refused call changes nothing but what told() tells.
 */
public final class BoundsTest extends Twins {
  public static void main(String[] args) throws Exception {
    newObject();
    span();
    spanIs();
    become();
    as();
    soak();
    bakes();
    eat();
    store();
    cross();
    feed();
    text();
    untell();
    law();
    days();
    loose();
    seed();
    joined();
    load();
    baking();
    eating();
    lasts();
    then();
    odds();
    fits();
    voice();
    body();
    sheet();
    put();
    move();
    soaks();
    judge();
    image();
    restore();
    tell();
    check();
    count();
    told();
    endOfSentences();
  }

  private static void newObject() throws Exception {
    promise(1);
    says("All as at first; no SPANS, no TEXTS.");
    BreadSpans x = new BreadSpans();
    int[] counts = {0, 0, 0, 200, 0, 0, 0, 0, 0, 1};
    for (int what = 0; what < 10; what++) {
      due("count(" + what + ")", x.count(what), counts[what]);
    }
    for (int k = 1; k <= 6; k++) {
      due("told(" + k + ")", x.told(k), 0);
    }
    due("no TEXT of SOAKS", x.untell(0), 0);
    due("no TEXT of CRUMBS", x.untell(1), 0);
    due("no SPANS", x.spanIs(0, 0), BEYOND);
    due("no IMAGE", x.restore(), NONE);
    due("no TRACE", x.body(0), NONE);
    for (int sheet = 0; sheet < 4; sheet++) {
      due("no SHEET", x.judge(sheet), NONE);
    }
    due("the first IMAGE", x.image(), 1);
    BreadSpans other = rich();
    due("another object", new BreadSpans().count(0), 0);
    due("the one ahead", other.count(0), 5);
  }

  private static void span() throws Exception {
    promise(2);
    says("One more SPAN (km: 10 times the KIND, and m), between two PLACES: the number.");
    BreadSpans x = new BreadSpans();
    due("the least", x.span(0, 0, 1), 0);
    due("the most", x.span(69, 7, 0), 1);
    int[] is = {6, 9, 7, 0, 0, 0, 0, 29, 0};
    for (int what = 0; what < 9; what++) {
      due("spanIs(1, " + what + ")", x.spanIs(1, what), is[what]);
    }
    x.image();
    x.span(10, 2, 3);
    x.days(9);
    x.soak(2, 9);
    x.eat(2);
    x.restore();
    due("the number is free again", x.span(11, 4, 5), 2);
    int[] anew = {1, 1, 4, 5, 0, 0, 0, 31, 9};
    for (int what = 0; what < 9; what++) {
      due("spanIs(2, " + what + ")", x.spanIs(2, what), anew[what]);
    }
    says("BEYOND: also one PLACE twice.");
    beyondAt("span(?, 0, 1)", 0, 69, (y, v) -> y.span(v, 0, 1));
    beyondAt("span(0, ?, 1)", 0, 7, (y, v) -> y.span(0, v, 1));
    beyondAt("span(0, 1, ?)", 0, 7, (y, v) -> y.span(0, 1, v));
    for (int place = 0; place < 8; place++) {
      int p = place;
      refused("span(0, " + p + ", " + p + ")", BEYOND, y -> y.span(0, p, p));
    }
    says("FULL.");
    changesNothing("the tenth", Twins::withNineSpans, FULL, y -> y.span(0, 0, 1));
    changesNothing("the tenth, BEYOND", Twins::withNineSpans, BEYOND, y -> y.span(0, 1, 1));
  }

  private static void spanIs() throws Exception {
    promise(3);
    says("Of a SPAN: 0 KIND, 1 m, 2, 3 the PLACES, 4 AGE, 5 WET, 6 GONE, 7 what it BEARS, 8 TAKES.");
    int[][] is = {
      {0, 5, 0, 1, 6, 3, 0, 5, 10}, {2, 4, 1, 2, 6, 3, 1, -1, 18}, {4, 7, 2, 0, 6, 3, 0, 17, 11},
      {5, 7, 3, 4, 6, 3, 1, -1, 24}, {6, 0, 5, 6, 2, 3, 0, 13, 0}
    };
    for (int span = 0; span < 5; span++) {
      for (int what = 0; what < 9; what++) {
        int s = span;
        int w = what;
        changesNothing("spanIs(" + s + ", " + w + ")", Twins::rich, is[s][w], x -> x.spanIs(s, w));
      }
    }
    says("BEYOND.");
    beyondAt("spanIs(?, 0)", 0, 4, (x, v) -> x.spanIs(v, 0));
    beyondAt("spanIs(0, ?)", 0, 8, (x, v) -> x.spanIs(0, v));
  }

  private static void become() throws Exception {
    promise(4);
    says("A SPAN becomes one of a KIND, with m (km): the KIND that it was.");
    BreadSpans x = rich();
    due("the last SPAN, the most", x.become(4, 69), 6);
    due("the last SPAN, the least", x.become(4, 0), 6);
    due("the first SPAN", x.become(0, 39), 0);
    due("one that is GONE", x.become(1, 10), 2);
    int[] is = {1, 0, 1, 2, 6, 3, 1, -1, 8};
    for (int what = 0; what < 9; what++) {
      due("spanIs(1, " + what + ")", x.spanIs(1, what), is[what]);
    }
    due("KIND", x.spanIs(4, 0), 0);
    due("m", x.spanIs(4, 1), 0);
    due("AGE stays", x.spanIs(4, 4), 2);
    due("WET stays", x.spanIs(4, 5), 3);
    due("FLOUR stays", x.count(3), 3);
    says("BEYOND.");
    beyondAt("become(?, 0)", 0, 4, (y, v) -> y.become(v, 0));
    beyondAt("become(0, ?)", 0, 69, (y, v) -> y.become(0, v));
  }

  private static void as() throws Exception {
    promise(5);
    says("A SPAN as one of a KIND: m.");
    changesNothing("the first", Twins::rich, 5, x -> x.as(0, 0));
    changesNothing("the KIND above", Twins::rich, 7, x -> x.as(2, 1));
    changesNothing("its own KIND", Twins::rich, 7, x -> x.as(2, 4));
    changesNothing("GONE, too", Twins::rich, 7, x -> x.as(3, 2));
    changesNothing("the last", Twins::rich, 0, x -> x.as(4, 6));
    says("BEYOND.");
    beyondAt("as(?, 0)", 0, 4, (x, v) -> x.as(v, 0));
    beyondAt("as(0, ?)", 0, 6, (x, v) -> x.as(0, v));
    says("KIND: it isn't of that KIND, nor of one under it.");
    refused("LOAF as RYE", KIND, x -> x.as(0, 1));
    refused("LOAF as PIETY", KIND, x -> x.as(0, 6));
    refused("BRIOCHE as TOAST", KIND, x -> x.as(1, 5));
    refused("BARLEY as BRIOCHE", KIND, x -> x.as(2, 2));
    refused("TOAST as RYE", KIND, x -> x.as(3, 1));
    refused("PIETY as TOAST", KIND, x -> x.as(4, 5));
  }

  private static void soak() throws Exception {
    promise(6);
    says("WET of a SPAN becomes so: what it was.");
    BreadSpans x = rich();
    due("the most", x.soak(4, 9), 3);
    due("the least", x.soak(4, 0), 9);
    due("what it was", x.soak(4, 2), 0);
    due("GONE, too", x.soak(1, 8), 3);
    due("WET", x.spanIs(4, 5), 2);
    due("WET", x.spanIs(1, 5), 8);
    due("the others stay", x.spanIs(0, 5), 3);
    says("BEYOND.");
    beyondAt("soak(?, 0)", 0, 4, (y, v) -> y.soak(v, 0));
    beyondAt("soak(0, ?)", 0, 9, (y, v) -> y.soak(0, v));
  }

  private static void bakes() throws Exception {
    promise(7);
    says("A SPAN is BAKED anew: what it TAKES (by which FLOUR is less).");
    BreadSpans x = rich();
    due("nothing", x.bakes(4), 0);
    due("FLOUR", x.count(3), 3);
    x.store(0, 24);
    due("just all", x.bakes(3), 24);
    due("FLOUR", x.count(3), 0);
    due("not GONE", x.spanIs(3, 6), 0);
    due("AGE", x.spanIs(3, 4), 0);
    due("WET", x.spanIs(3, 5), 0);
    due("nothing of nothing", x.bakes(4), 0);
    x.store(0, 9999);
    due("of the most", x.bakes(0), 10);
    due("FLOUR", x.count(3), 9989);
    says("BEYOND.");
    beyondAt("bakes(?)", 0, 4, (y, v) -> y.bakes(v));
    says("STATE: there is less FLOUR.");
    refused("bakes(0)", STATE, y -> y.bakes(0));
    refused("bakes(3), GONE", STATE, y -> y.bakes(3));
    changesNothing("one less", () -> withFlour(9), STATE, y -> y.bakes(0));
    changesNothing("none", () -> withFlour(0), STATE, y -> y.bakes(2));
    due("just so much", withFlour(10).bakes(0), 10);
  }

  private static BreadSpans withFlour(int flour) {
    BreadSpans x = rich();
    x.store(0, flour);
    return x;
  }

  private static void eat() throws Exception {
    promise(8);
    says("A SPAN is GONE: whether it was (1, 0).");
    BreadSpans x = rich();
    due("the first", x.eat(0), 0);
    due("the last", x.eat(4), 0);
    due("GONE", x.spanIs(0, 6) + x.spanIs(4, 6), 2);
    changesNothing("it was", Twins::rich, 1, y -> y.eat(1));
    says("BEYOND.");
    beyondAt("eat(?)", 0, 4, (y, v) -> y.eat(v));
  }

  private static void store() throws Exception {
    promise(9);
    says("FLOUR (what 0), RAIN (1) becomes v: what it was.");
    BreadSpans x = rich();
    due("the most FLOUR", x.store(0, 9999), 3);
    due("the least FLOUR", x.store(0, 0), 9999);
    due("the most RAIN", x.store(1, 9), 3);
    due("the least RAIN", x.store(1, 0), 9);
    due("RAIN", x.count(2), 0);
    due("FLOUR", x.count(3), 0);
    says("BEYOND.");
    beyondAt("store(?, 0)", 0, 1, (y, v) -> y.store(v, 0));
    beyondAt("store(0, ?)", 0, 9999, (y, v) -> y.store(0, v));
    beyondAt("store(1, ?)", 0, 9, (y, v) -> y.store(1, v));
    refused("both", BEYOND, y -> y.store(2, 10000));
  }

  private static void cross() throws Exception {
    promise(10);
    says("A SPAN is CROSSED with a load (0 .. 99): TOLL of that; -1: it breaks.");
    BreadSpans x = rich();
    int toll = x.count(5);
    due("the least", x.cross(0, 0), 5);
    due("what it BEARS", x.cross(0, 5), 10);
    due("TOLL", x.count(5), toll + 15);
    due("one more", x.cross(0, 6), -1);
    due("LOST", x.count(4), 96);
    due("the most", x.cross(4, 99), -1);
    due("LOST", x.count(4), 195);
    due("TOLL stays", x.count(5), toll + 15);
    due("it breaks: no ERROR", x.told(3), 0);
    says("BEYOND.");
    beyondAt("cross(?, 0)", 0, 4, (y, v) -> y.cross(v, 0));
    beyondAt("cross(0, ?)", 0, 99, (y, v) -> y.cross(0, v));
    says("STATE: it is GONE.");
    refused("cross(1, 0)", STATE, y -> y.cross(1, 0));
    refused("cross(1, 99)", STATE, y -> y.cross(1, 99));
    refused("cross(3, 1)", STATE, y -> y.cross(3, 1));
    refused("cross(1, 100)", BEYOND, y -> y.cross(1, 100));
  }

  private static void feed() throws Exception {
    promise(11);
    says("The n lowest bytes (1 .. 8) of a word, the lowest first, come to THE TAPE: how many there"
        + " are.");
    BreadSpans x = new BreadSpans();
    due("one", x.feed(0x7777777777777737L, 1), 1);
    due("that one", x.text(0), 1);
    due("the lowest", x.law(0, 1, 2, 3), 7);
    due("seven of r-1+2*3-", x.feed(0x2D332A322B312D72L, 7), 7);
    due("a TEXT", x.text(0), 1);
    due("the lowest first", x.law(0, 4, 0, 0), 9);
    due("eight of r-1+2*3-", x.feed(0x2D332A322B312D72L, 8), 8);
    due("behind them", x.feed('w', 1), 9);
    due("a TEXT", x.text(0), 1);
    due("all of it", x.law(0, 4, 5, 0), 4);
    due("a word below 0", x.feed(-1L, 8), 8);
    due("bytes of 255", x.text(0), -10);
    due("0, too", x.feed(0L, 1), 1);
    due("a byte of 0", x.text(0), -10);
    says("BEYOND.");
    beyondAt("feed(0x31, ?)", 1, 8, (y, v) -> y.feed(0x31L, v));
    says("FULL.");
    due("up to sixty", withTapeOf(52).feed(-1L, 8), 60);
    due("up to sixty", withTapeOf(59).feed(-1L, 1), 60);
    changesNothing("a byte too many", () -> withTapeOf(60), FULL, y -> y.feed(0L, 1));
    changesNothing("eight too many", () -> withTapeOf(60), FULL, y -> y.feed(0L, 8));
    changesNothing("one of two too many", () -> withTapeOf(59), FULL, y -> y.feed(0L, 2));
    changesNothing("one of eight too many", () -> withTapeOf(53), FULL, y -> y.feed(0L, 8));
    changesNothing("BEYOND ahead of FULL", () -> withTapeOf(60), BEYOND, y -> y.feed(0L, 9));
  }

  private static void text() throws Exception {
    promise(12);
    says("THE TAPE, which is empty then, is the TEXT of a USE (0, 1), in place of one ahead: 1.");
    BreadSpans x = rich();
    due("SOAKS", x.text(0), 1);
    due("THE TAPE is empty", x.count(6), 0);
    due("in place of r-w", x.law(0, 2, 3, 0), 7);
    due("CRUMBS stays", x.law(1, 2, 3, 4), 6);
    written(x, 1, "b");
    due("in place of l+m", x.law(1, 2, 3, 4), 3);
    due("SOAKS stays", x.law(0, 2, 3, 0), 7);
    written(x, 1, "l*b*m");
    due("a longer one", x.law(1, 2, 3, 4), 24);
    written(x, 1, "m");
    due("a shorter one", x.law(1, 2, 3, 4), 4);
    says("BEYOND (THE TAPE stays).");
    beyondAt("text(?)", 0, 1, (y, v) -> y.text(v));
    says("-10 less the FAULT (no ERROR; the one ahead stays; THE TAPE is empty, too).");
    BreadSpans z = rich();
    due("r is no NAME of CRUMBS", z.text(1), -10);
    due("THE TAPE is empty", z.count(6), 0);
    due("the one ahead stays", z.law(1, 2, 3, 4), 6);
    due("an empty TAPE", z.text(0), -10);
    due("the one ahead stays", z.law(0, 5, 3, 4), 2);
    tape(z, "9+9+");
    due("too early", z.text(0), -14);
    due("the one ahead stays", z.law(0, 5, 3, 4), 2);
    for (int k = 1; k <= 6; k++) {
      due("no ERROR", z.told(k), 0);
    }
    BreadSpans none = new BreadSpans();
    tape(none, "1+");
    due("none ahead", none.text(0), -12);
    due("none still", none.untell(0), 0);
    written(none, 0, "3");
    due("nothing of the faulty one is left", none.law(0, 0, 0, 0), 3);
  }

  private static void untell() throws Exception {
    promise(13);
    says("There is no TEXT of a USE any more: 1 if there was, else 0.");
    BreadSpans x = rich();
    due("SOAKS", x.untell(0), 1);
    due("as without", x.law(0, 5, 0, 0), 1);
    due("CRUMBS stays", x.law(1, 2, 3, 4), 6);
    due("CRUMBS", x.untell(1), 1);
    due("as without", x.law(1, 25, 0, 0), 3);
    due("THE TAPE stays", x.count(6), 5);
    due("no more", x.untell(0) + x.untell(1), 0);
    x.text(0);
    due("again", x.untell(0), 1);
    changesNothing("there is none", Dues::withSpans, 0, y -> y.untell(0));
    says("BEYOND.");
    beyondAt("untell(?)", 0, 1, (y, v) -> y.untell(v));
  }

  private static void law() throws Exception {
    promise(14);
    says("What a USE gives with its NAMES in order as a, b, c (any number).");
    BreadSpans x = new BreadSpans();
    written(x, 0, "(r=1)+(w=2)*2+(k=3)*4");
    written(x, 1, "(l=1)+(b=2)*2+(m=3)*4");
    for (int use = 0; use < 2; use++) {
      due("all in order", x.law(use, 1, 2, 3), 7);
      due("the first", x.law(use, 1, 1, 1), 1);
      due("the second", x.law(use, 2, 2, 2), 2);
      due("the third", x.law(use, 3, 3, 3), 4);
      due("none", x.law(use, LEAST, MOST, LEAST), 0);
    }
    for (int v : new int[] {LEAST, BEYOND, -1, 0, 1, MOST}) {
      changesNothing("SOAKS of " + v, Twins::rich, Math.max(-9, Math.min(9, v)),
          y -> y.law(0, v, 0, 0));
      changesNothing("CRUMBS of " + v, Twins::rich, Math.max(0, Math.min(99, v)),
          y -> y.law(1, v, 0, 0));
    }
    says("BEYOND.");
    beyondAt("law(?, 1, 2, 3)", 0, 1, (y, v) -> y.law(v, 1, 2, 3));
  }

  private static void days() throws Exception {
    promise(15);
    says("n (1 .. 60) DAYS go by: DAY.");
    BreadSpans x = rich();
    due("one", x.days(1), 7);
    due("sixty", x.days(60), 67);
    due("AGE", x.spanIs(0, 4), 67);
    due("z stays", x.count(9), 77);
    due("RAIN stays", x.count(2), 3);
    says("BEYOND.");
    beyondAt("days(?)", 1, 60, (y, v) -> y.days(v));
    says("STATE: it would be above 9999.");
    due("to the last", onDay(9939).days(60), 9999);
    due("to the last", onDay(9998).days(1), 9999);
    changesNothing("one too many", () -> onDay(9999), STATE, y -> y.days(1));
    changesNothing("one of two too many", () -> onDay(9998), STATE, y -> y.days(2));
    changesNothing("one of sixty too many", () -> onDay(9940), STATE, y -> y.days(60));
    changesNothing("BEYOND ahead of STATE", () -> onDay(9999), BEYOND, y -> y.days(61));
  }

  private static void loose() throws Exception {
    promise(16);
    says("n (1 .. 30) DAYS BY DRAWS: how many SPANS broke.");
    BreadSpans none = new BreadSpans();
    due("one", none.loose(1), 0);
    due("DAY", none.count(1), 1);
    due("thirty", none.loose(30), 0);
    due("DAY", none.count(1), 31);
    drawFrom(1);
    for (int i = 0; i < 31; i++) {
      draw();
    }
    due("one draw a DAY", none.count(9), drawn());
    BreadSpans x = rich();
    x.become(0, 20);
    x.become(4, 20);
    x.bakes(2);
    int gone = goneOf(x);
    int broke = x.loose(30);
    due("broke", broke, goneOf(x) - gone);
    due("some did", broke > 0 ? 1 : 0, 1);
    says("BEYOND.");
    beyondAt("loose(?)", 1, 30, (y, v) -> y.loose(v));
    says("STATE: DAY would be above 9999.");
    BreadSpans late = onDay(9969);
    late.loose(30);
    due("to the last", late.count(1), 9999);
    changesNothing("one too many", () -> onDay(9999), STATE, y -> y.loose(1));
    changesNothing("one of thirty too many", () -> onDay(9970), STATE, y -> y.loose(30));
    changesNothing("BEYOND ahead of STATE", () -> onDay(9999), BEYOND, y -> y.loose(31));
  }

  private static int goneOf(BreadSpans x) {
    int gone = 0;
    for (int span = 0; span < x.count(0); span++) {
      gone += x.spanIs(span, 6);
    }
    return gone;
  }

  private static void seed() throws Exception {
    promise(17);
    says("z becomes v: what it was (any number).");
    BreadSpans x = rich();
    int was = 77;
    for (int v : new int[] {LEAST, MOST, 0, -1, BEYOND, NONE, STATE, FULL, KIND, PARTED, LOW, 1}) {
      due("seed(" + v + ")", x.seed(v), was);
      due("z", x.count(9), v);
      was = v;
    }
    for (int k = 1; k <= 6; k++) {
      due("no ERROR", x.told(k), 0);
    }
    changesNothing("the same again", Twins::rich, 77, y -> y.seed(77));
  }

  private static void joined() throws Exception {
    promise(18);
    says("JOINED, for a load (0 .. 99), as a set.");
    changesNothing("the first PLACE", Twins::rich, 1 + 2 + 4, x -> x.joined(0, 0));
    changesNothing("the last PLACE", Twins::rich, 128, x -> x.joined(7, 0));
    changesNothing("the greatest load", Twins::rich, 1, x -> x.joined(0, 99));
    changesNothing("what one BEARS", Twins::rich, 1 + 4, x -> x.joined(2, 17));
    changesNothing("one more", Twins::rich, 4, x -> x.joined(2, 18));
    BreadSpans way = withSpans(0, 0, 1, 0, 1, 2, 0, 2, 3, 0, 3, 4, 0, 4, 5, 0, 5, 6, 0, 6, 7);
    due("all PLACES", way.joined(0, 20), 255);
    due("all PLACES", way.joined(7, 20), 255);
    says("BEYOND.");
    beyondAt("joined(?, 0)", 0, 7, (x, v) -> x.joined(v, 0));
    beyondAt("joined(0, ?)", 0, 99, (x, v) -> x.joined(0, v));
  }

  /** What is asked of two PLACES is BEYOND if one is, or both are the same. */
  private static void twoPlaces(String call, ActOfTwo act) {
    beyondAt(call.replace("@", "1"), 0, 7, (x, v) -> act.on(x, v, 1));
    beyondAt(call.replace("?", "1").replace("@", "?"), 0, 7, (x, v) -> act.on(x, 1, v));
    for (int p = 0; p < 8; p++) {
      int twice = p;
      refused(call.replace("?", "" + p).replace("@", "" + p), BEYOND, x -> act.on(x, twice, twice));
    }
  }

  private interface ActOfTwo {
    int on(BreadSpans x, int one, int other);
  }

  private static void load() throws Exception {
    promise(19);
    says("GREATEST LOAD.");
    changesNothing("load(0, 2)", Twins::rich, 17, x -> x.load(0, 2));
    changesNothing("load(2, 1)", Twins::rich, 5, x -> x.load(2, 1));
    due("over the first and the last PLACE", withSpans(19, 7, 0).load(0, 7), 39);
    BreadSpans dry = withSpans(0, 0, 7);
    dry.days(10);
    due("0", dry.load(0, 7), 0);
    says("BEYOND: also one PLACE twice.");
    twoPlaces("load(?, @)", (x, one, other) -> x.load(one, other));
    says("NONE: not even for 0.");
    refused("load(3, 4)", NONE, x -> x.load(3, 4));
    refused("load(0, 7)", NONE, x -> x.load(0, 7));
  }

  private static void baking() throws Exception {
    promise(20);
    says("BAKING, for a load (0 .. 99): what 0 FLOUR, 1 the set.");
    changesNothing("nothing needed", Twins::rich, 0, x -> x.baking(0, 1, 0, 0));
    changesNothing("nothing needed", Twins::rich, 0, x -> x.baking(0, 1, 0, 1));
    changesNothing("one that is GONE, FLOUR", Twins::rich, 24, x -> x.baking(3, 4, 0, 0));
    changesNothing("one that is GONE", Twins::rich, 8, x -> x.baking(3, 4, 19, 1));
    changesNothing("two, FLOUR", Twins::rich, 21, x -> x.baking(1, 2, 18, 0));
    changesNothing("two", Twins::rich, 5, x -> x.baking(1, 2, 18, 1));
    changesNothing("one of two, FLOUR", Twins::rich, 10, x -> x.baking(1, 2, 17, 0));
    changesNothing("one of two", Twins::rich, 1, x -> x.baking(1, 2, 17, 1));
    says("BEYOND: also one PLACE twice.");
    twoPlaces("baking(?, @, 0, 0)", (x, one, other) -> x.baking(one, other, 0, 0));
    beyondAt("baking(0, 1, ?, 0)", 0, 99, (x, v) -> x.baking(0, 1, v, 0));
    beyondAt("baking(0, 1, 0, ?)", 0, 1, (x, v) -> x.baking(0, 1, 0, v));
    says("NONE: by no set.");
    refused("baking(0, 1, 99, 0)", NONE, x -> x.baking(0, 1, 99, 0));
    refused("baking(0, 1, 26, 1)", NONE, x -> x.baking(0, 1, 26, 1));
    refused("baking(0, 7, 0, 0)", NONE, x -> x.baking(0, 7, 0, 0));
    refused("baking(3, 4, 20, 0)", NONE, x -> x.baking(3, 4, 20, 0));
    due("25", rich().baking(0, 1, 25, 1), 1);
  }

  private static void eating() throws Exception {
    promise(21);
    says("EATING, for a load (0 .. 99): what 0 how many, 1 the set.");
    changesNothing("one", Twins::rich, 1, x -> x.eating(0, 1, 0, 0));
    changesNothing("that one", Twins::rich, 1, x -> x.eating(0, 1, 0, 1));
    changesNothing("one of two", Twins::rich, 1, x -> x.eating(1, 2, 5, 1));
    changesNothing("none", Twins::rich, 0, x -> x.eating(0, 1, 6, 0));
    changesNothing("none", Twins::rich, 0, x -> x.eating(0, 1, 99, 1));
    changesNothing("one that is GONE", Twins::rich, 0, x -> x.eating(3, 4, 0, 1));
    says("BEYOND: also one PLACE twice.");
    twoPlaces("eating(?, @, 0, 0)", (x, one, other) -> x.eating(one, other, 0, 0));
    beyondAt("eating(0, 1, ?, 0)", 0, 99, (x, v) -> x.eating(0, 1, v, 0));
    beyondAt("eating(0, 1, 0, ?)", 0, 1, (x, v) -> x.eating(0, 1, 0, v));
  }

  private static void lasts() throws Exception {
    promise(22);
    says("LASTS, for a load (0 .. 99).");
    changesNothing("not now", Twins::rich, 0, x -> x.lasts(0, 1, 99));
    changesNothing("not now", Twins::rich, 0, x -> x.lasts(0, 2, 18));
    changesNothing("behind a DAY", Twins::rich, 1, x -> x.lasts(5, 6, 13));
    changesNothing("till it bears the rest alone", Twins::rich, 8, x -> x.lasts(5, 6, 1));
    says("BEYOND: also one PLACE twice.");
    twoPlaces("lasts(?, @, 0)", (x, one, other) -> x.lasts(one, other, 0));
    beyondAt("lasts(0, 1, ?)", 0, 99, (x, v) -> x.lasts(0, 1, v));
    says("NONE: they are JOINED till 60.");
    refused("lasts(0, 1, 0)", NONE, x -> x.lasts(0, 1, 0));
    refused("lasts(2, 0, 17)", NONE, x -> x.lasts(2, 0, 17));
  }

  private static void then() throws Exception {
    promise(23);
    says("THEN, for n (0 .. 60; -1: it is GONE).");
    changesNothing("now", Twins::rich, 17, x -> x.then(2, 0));
    changesNothing("the first", Twins::rich, 5, x -> x.then(0, 60));
    changesNothing("not yet stone", Twins::rich, 17, x -> x.then(2, 4));
    changesNothing("stone", Twins::rich, 67, x -> x.then(2, 5));
    changesNothing("GONE now", Twins::rich, -1, x -> x.then(1, 0));
    changesNothing("GONE then", Twins::rich, -1, x -> x.then(3, 60));
    changesNothing("the last", Twins::rich, 66 % 7, x -> x.then(4, 60));
    says("BEYOND.");
    beyondAt("then(?, 0)", 0, 4, (x, v) -> x.then(v, 0));
    beyondAt("then(0, ?)", 0, 60, (x, v) -> x.then(0, v));
  }

  private static void odds() throws Exception {
    promise(24);
    says("ODDS, for a load (0 .. 99): part 0 above, 1 below the line.");
    changesNothing("always, above", Twins::rich, 1, x -> x.odds(0, 1, 0, 0));
    changesNothing("always, below", Twins::rich, 1, x -> x.odds(0, 1, 0, 1));
    changesNothing("never, above", Twins::rich, 0, x -> x.odds(0, 1, 99, 0));
    changesNothing("never, below", Twins::rich, 1, x -> x.odds(0, 1, 99, 1));
    changesNothing("GONE, above", Twins::rich, 0, x -> x.odds(3, 4, 0, 0));
    changesNothing("at RAIN 0 .. 3, above", Twins::rich, 2, x -> x.odds(5, 6, 5, 0));
    changesNothing("at RAIN 0 .. 3, below", Twins::rich, 5, x -> x.odds(5, 6, 5, 1));
    says("BEYOND: also one PLACE twice.");
    twoPlaces("odds(?, @, 0, 0)", (x, one, other) -> x.odds(one, other, 0, 0));
    beyondAt("odds(0, 1, ?, 0)", 0, 99, (x, v) -> x.odds(0, 1, v, 0));
    beyondAt("odds(0, 1, 0, ?)", 0, 1, (x, v) -> x.odds(0, 1, 0, v));
  }

  private static BreadSpans withSheet(int bits, int... numbers) {
    BreadSpans x = rich();
    x.sheet(3, bits, numbers.length);
    for (int i = 0; i < numbers.length; i++) {
      x.put(3, i, numbers[i]);
    }
    return x;
  }

  private static void fits() throws Exception {
    promise(25);
    says("FITS, by a SHEET.");
    changesNothing("now", () -> withSheet(8, 5, -1, 17, -1, 13), 0, x -> x.fits(3));
    changesNothing("stone", () -> withSheet(16, 5, -1, 67), 5, x -> x.fits(3));
    changesNothing("no numbers", () -> withSheet(32), 0, x -> x.fits(3));
    says("BEYOND.");
    beyondAt("fits(?)", 0, 3, (x, v) -> x.fits(v));
    says("NONE: the SHEET is missing; not by 60.");
    refused("missing", NONE, x -> x.fits(3));
    refused("not by 60", NONE, x -> x.fits(0));
    changesNothing("no such SPAN", () -> withSheet(8, 5, -1, 17, -1, 13, 0), NONE, x -> x.fits(3));
  }

  private static void voice() throws Exception {
    promise(26);
    says("A VOICE of a SPAN: any number.");
    BreadSpans x = rich();
    due("the first", x.voice(0, 0, MOST), MOST);
    due("the last", x.voice(4, 3, 9), -2);
    due("BEYOND", x.voice(0, 0, BEYOND), BEYOND);
    due("PARTED", x.voice(0, 0, PARTED), PARTED);
    due("LEAST", x.voice(0, 0, LEAST), LEAST);
    due("GONE, too", x.voice(1, 0, 5), 6);
    for (int k = 1; k <= 6; k++) {
      due("no ERROR", x.told(k), 0);
    }
    says("BEYOND.");
    beyondAt("voice(?, 0, 1)", 0, 4, (y, v) -> y.voice(v, 0, 1));
    beyondAt("voice(0, ?, 1)", 0, 3, (y, v) -> y.voice(0, v, 1));
    says("PARTED.");
    BreadSpans parted = rich();
    BreadSpans twin = rich();
    parted.become(2, 12);
    twin.become(2, 12);
    due("PARTED", parted.voice(2, 3, 5), PARTED);
    due("two BODIES began", parted.count(8), 2);
    due("told", parted.told(6), 1);
    due("another voice", parted.voice(2, 0, 5), twin.voice(2, 0, 5));
    isSame("behind PARTED", all(parted), all(twin));
  }

  private static void body() throws Exception {
    promise(27);
    says("THE TRACE's i-th.");
    int[] trace = {51, 12, 11, 50, 20, 10};
    for (int i = 0; i < 6; i++) {
      int at = i;
      changesNothing("body(" + i + ")", Twins::rich, trace[i], x -> x.body(at));
    }
    says("NONE: there is none such.");
    for (int v : beyond(0, 5)) {
      refused("body(" + v + ")", NONE, x -> x.body(v));
    }
    changesNothing("none yet", Dues::withSpans, NONE, x -> x.body(0));
  }

  private static void sheet() throws Exception {
    promise(28);
    says("A SHEET has n numbers, all 0, of so many bits (8, 16, 32; 0: it is missing, n doesn't"
        + " matter): 1.");
    BreadSpans x = rich();
    for (int sheet = 0; sheet < 4; sheet++) {
      for (int bits = 8; bits <= 32; bits *= 2) {
        due("numbers", x.sheet(sheet, bits, 5), 1);
        due("the first", x.put(sheet, 0, 9), 1);
        due("the last", x.put(sheet, 4, 9), 1);
        due("anew", x.sheet(sheet, bits, 5), 1);
        due("all of them", x.soaks(sheet), 5);
        due("0", x.spanIs(0, 5), 0);
        due("0", x.spanIs(4, 5), 0);
        due("the most", x.sheet(sheet, bits, 24), 1);
        due("the last", x.put(sheet, 23, 9), 1);
        due("behind", x.put(sheet, 24, 9), BEYOND);
        due("none", x.sheet(sheet, bits, 0), 1);
        due("no first", x.put(sheet, 0, 9), BEYOND);
        due("it isn't missing", x.judge(sheet), 0);
      }
      for (int n : new int[] {0, -1, 25, LEAST, MOST}) {
        x.sheet(sheet, 8, 3);
        due("missing, n " + n, x.sheet(sheet, 0, n), 1);
        due("missing", x.judge(sheet), NONE);
      }
    }
    due("no STATE told", x.told(3), 0);
    says("BEYOND.");
    beyondAt("sheet(?, 8, 1)", 0, 3, (y, v) -> y.sheet(v, 8, 1));
    beyondAt("sheet(?, 0, 1)", 0, 3, (y, v) -> y.sheet(v, 0, 1));
    for (int bits : new int[] {-32, -8, -1, 1, 7, 9, 15, 17, 24, 31, 33, 64, LEAST, MOST}) {
      refused("sheet(0, " + bits + ", 1)", BEYOND, y -> y.sheet(0, bits, 1));
    }
    for (int n : new int[] {25, 26, MOST}) {
      refused("sheet(0, 8, " + n + ")", BEYOND, y -> y.sheet(0, 8, n));
      refused("sheet(3, 32, " + n + ")", BEYOND, y -> y.sheet(3, 32, n));
    }
    says("STATE: n is below 0 (ahead of BEYOND of n).");
    for (int n : new int[] {-1, -25, LEAST}) {
      refused("sheet(0, 8, " + n + ")", STATE, y -> y.sheet(0, 8, n));
      refused("sheet(3, 16, " + n + ")", STATE, y -> y.sheet(3, 16, n));
      refused("sheet(4, 8, " + n + ")", BEYOND, y -> y.sheet(4, 8, n));
      refused("sheet(0, 24, " + n + ")", BEYOND, y -> y.sheet(0, 24, n));
    }
  }

  /** Whether a number of so many bits is as WET as this, or the -1 that a GONE SPAN bears. */
  private static void lowestBits(int bits, int v, int want) {
    BreadSpans x = withSpans(0, 0, 1);
    x.sheet(0, bits, 1);
    due("put " + v, x.put(0, 0, v), 1);
    if (want < 0) {
      x.eat(0);
      due(v + " in " + bits + " bits is " + want, x.judge(0), 1);
    } else if (want > 9) {
      due(v + " in " + bits + " bits is not 0 to 9", x.soaks(0), 0);
    } else {
      due(v + " in " + bits + " bits", x.soaks(0), 1);
      due(v + " in " + bits + " bits", x.spanIs(0, 5), want);
    }
  }

  private static void put() throws Exception {
    promise(29);
    says("Number i of a SHEET becomes v (its lowest bits): 1.");
    lowestBits(8, 9, 9);
    lowestBits(8, 127, 127);
    lowestBits(8, 255, -1);
    lowestBits(8, -1, -1);
    lowestBits(8, 256, 0);
    lowestBits(8, 256 + 9, 9);
    lowestBits(8, -256 + 3, 3);
    lowestBits(8, 65536 * 5 + 256 * 4 + 7, 7);
    lowestBits(8, LEAST, 0);
    lowestBits(8, MOST, -1);
    lowestBits(16, 9, 9);
    lowestBits(16, 255, 255);
    lowestBits(16, 256, 256);
    lowestBits(16, 65535, -1);
    lowestBits(16, -1, -1);
    lowestBits(16, 65536 + 9, 9);
    lowestBits(16, LEAST, 0);
    lowestBits(16, MOST, -1);
    lowestBits(32, 9, 9);
    lowestBits(32, 65536, 65536);
    lowestBits(32, MOST, MOST);
    lowestBits(32, -1, -1);
    BreadSpans x = rich();
    due("the first", x.put(2, 0, 9), 1);
    due("the last", x.put(2, 4, 8), 1);
    x.soaks(2);
    int[] wet = {9, 4, 5, 6, 8};
    for (int i = 0; i < 5; i++) {
      due("number " + i, x.spanIs(i, 5), wet[i]);
    }
    says("BEYOND: no such SHEET.");
    beyondAt("put(?, 0, 7)", 0, 3, (y, v) -> y.put(v, 0, 7));
    says("NONE: it is missing.");
    refused("put(3, 0, 7)", NONE, y -> y.put(3, 0, 7));
    refused("put(3, -1, 7)", NONE, y -> y.put(3, -1, 7));
    says("BEYOND: no such number.");
    beyondAt("put(0, ?, 7)", 0, 2, (y, v) -> y.put(0, v, 7));
    beyondAt("put(1, ?, 7)", 0, 3, (y, v) -> y.put(1, v, 7));
    beyondAt("put(2, ?, 7)", 0, 4, (y, v) -> y.put(2, v, 7));
    changesNothing("of none", () -> withSheet(8), BEYOND, y -> y.put(3, 0, 7));
  }

  /** SHEET 2 has 3 4 5 6 7; SHEET 3 is made 9 8 7 6, of as many bits. */
  private static void moved(int i, int other, int j, int n, int... want) {
    BreadSpans x = withSheet(32, 9, 8, 7, 6);
    String call = "move(2, " + i + ", " + other + ", " + j + ", " + n + ")";
    due(call, x.move(2, i, other, j, n), n);
    due("all behind " + call, x.soaks(other), want.length);
    for (int at = 0; at < want.length; at++) {
      due("number " + at + " behind " + call, x.spanIs(at, 5), want[at]);
    }
    if (other != 2) {
      due("all", x.soaks(2), 5);
      due("it has its own still", x.spanIs(0, 5) + 10 * x.spanIs(4, 5), 73);
    }
  }

  private static void move() throws Exception {
    promise(30);
    says("n numbers of a SHEET, from number i on, come to another one (or the same), from its number j"
        + " on, as they all were: n.");
    moved(0, 3, 0, 4, 3, 4, 5, 6);
    moved(1, 3, 0, 4, 4, 5, 6, 7);
    moved(4, 3, 3, 1, 9, 8, 7, 7);
    moved(0, 3, 3, 1, 9, 8, 7, 3);
    moved(2, 3, 1, 2, 9, 5, 6, 6);
    moved(0, 2, 1, 4, 3, 3, 4, 5, 6);
    moved(1, 2, 0, 4, 4, 5, 6, 7, 7);
    moved(0, 2, 0, 5, 3, 4, 5, 6, 7);
    moved(0, 2, 3, 2, 3, 4, 5, 3, 4);
    moved(5, 3, 4, 0, 9, 8, 7, 6);
    moved(0, 3, 0, 0, 9, 8, 7, 6);
    says("BEYOND: no such SHEET.");
    beyondAt("move(?, 0, 0, 0, 1)", 0, 3, (x, v) -> x.move(v, 0, 0, 0, 1));
    beyondAt("move(0, 0, ?, 0, 1)", 0, 3, (x, v) -> x.move(0, 0, v, 0, 1));
    refused("ahead of NONE", BEYOND, x -> x.move(3, 0, 4, 0, 1));
    refused("ahead of NONE", BEYOND, x -> x.move(-1, 0, 3, 0, 1));
    says("NONE: one is missing.");
    refused("the one", NONE, x -> x.move(3, 0, 0, 0, 1));
    refused("the other", NONE, x -> x.move(0, 0, 3, 0, 1));
    refused("both", NONE, x -> x.move(3, 0, 3, 0, 0));
    refused("ahead of BEYOND of n", NONE, x -> x.move(0, 0, 3, 0, -1));
    says("KIND: they are of unlike bits.");
    refused("8 and 16", KIND, x -> x.move(0, 0, 1, 0, 1));
    refused("16 and 8", KIND, x -> x.move(1, 0, 0, 0, 1));
    refused("32 and 16", KIND, x -> x.move(2, 0, 1, 0, 0));
    refused("ahead of BEYOND of n", KIND, x -> x.move(0, 0, 2, 0, -1));
    says("BEYOND: n, i, or j is below 0, or they don't stand there.");
    moveBeyond();
  }

  private static void moveBeyond() {
    State state = () -> withSheet(32, 9, 8, 7, 6);
    int[][] calls = {
      {0, 0, -1}, {-1, 0, 1}, {0, -1, 1}, {-1, -1, 0}, {0, 0, LEAST}, {LEAST, 0, 1}, {0, LEAST, 1},
      {-1, 0, 0}, {0, -1, 0}, {0, 0, 5}, {2, 0, 4}, {5, 0, 1}, {6, 0, 0}, {0, 1, 4}, {0, 4, 1},
      {0, 5, 0},
      {MOST, 0, 1}, {0, MOST, 1}, {0, 0, MOST}, {MOST, 0, MOST}, {0, MOST, MOST}, {1, 1, MOST}
    };
    for (int[] c : calls) {
      changesNothing("move(2, " + c[0] + ", 3, " + c[1] + ", " + c[2] + ")", state, BEYOND,
          x -> x.move(2, c[0], 3, c[1], c[2]));
    }
    refused("the same, one too far", BEYOND, x -> x.move(2, 0, 2, 1, 5));
    refused("the same, one too many", BEYOND, x -> x.move(2, 0, 2, 0, 6));
  }

  private static void soaks() throws Exception {
    promise(31);
    says("Numbers of a SHEET become how WET SPANS 0, 1, .. are: how many, up to the first that is not 0"
        + " to 9 (no ERROR then), or for which there is no SPAN.");
    soaked(5, 0, 9, 0, 9, 5);
    soaked(0, 10, 1, 1);
    soaked(0, -1, 1, 1);
    soaked(1, 1, 10, 2);
    soaked(2, 1, 2, -1, 2);
    soaked(4, 1, 2, 4, 5, 99);
    soaked(5, 9, 8, 7, 6, 5, 4);
    soaked(5, 9, 8, 7, 6, 5, 99, 1);
    soaked(3, 9, 8, 7);
    soaked(0);
    due("no SPANS", withoutSpans().soaks(0), 0);
    says("BEYOND: no such SHEET.");
    beyondAt("soaks(?)", 0, 3, (x, v) -> x.soaks(v));
    says("NONE: it is missing.");
    refused("soaks(3)", NONE, x -> x.soaks(3));
  }

  private static void soaked(int many, int... numbers) {
    BreadSpans x = withSheet(16, numbers);
    due("soaks", x.soaks(3), many);
    for (int i = 0; i < 5; i++) {
      due("WET of " + i, x.spanIs(i, 5), i < many ? numbers[i] : 3);
    }
    for (int k = 1; k <= 6; k++) {
      due("no ERROR", x.told(k), 0);
    }
  }

  private static BreadSpans withoutSpans() {
    BreadSpans x = new BreadSpans();
    x.sheet(0, 8, 3);
    return x;
  }

  private static void judge() throws Exception {
    promise(32);
    says("Numbers of a SHEET are what SPANS 0, 1, .. BEAR now: how many are right, from the first on.");
    judged(5, 5, -1, 17, -1, 13);
    judged(0, 4, -1, 17, -1, 13);
    judged(4, 5, -1, 17, -1, 12);
    judged(1, 5, 0, 17, -1, 13);
    judged(2, 5, -1);
    judged(5, 5, -1, 17, -1, 13, 0);
    judged(5, 5, -1, 17, -1, 13, -1);
    judged(0);
    due("no SPANS", withoutSpans().judge(0), 0);
    says("BEYOND: no such SHEET.");
    beyondAt("judge(?)", 0, 3, (x, v) -> x.judge(v));
    says("NONE: it is missing.");
    refused("judge(3)", NONE, x -> x.judge(3));
  }

  private static void judged(int right, int... numbers) {
    for (int bits = 8; bits <= 32; bits *= 2) {
      int b = bits;
      changesNothing("judge, " + b + " bits", () -> withSheet(b, numbers), right, x -> x.judge(3));
    }
  }

  /** Changes all that an IMAGE keeps. */
  private static void change(BreadSpans x) {
    x.text(0);
    x.check();
    x.untell(1);
    x.become(0, 37);
    x.become(2, 17);
    x.soak(0, 8);
    x.store(0, 500);
    x.bakes(1);
    x.bakes(4);
    x.eat(2);
    x.cross(0, 2);
    x.cross(1, 99);
    x.span(33, 1, 7);
    x.loose(5);
    x.feed('k', 1);
    x.tell(1);
    x.tell(1);
    x.tell(1);
  }

  private static void image() throws Exception {
    promise(33);
    says("All (but SHEETS, THE TRACE, what told() tells, and how often this was done) is kept as an"
        + " IMAGE, in place of one ahead: how often that was done.");
    BreadSpans x = rich();
    due("the second", x.image(), 2);
    List<String> kept = new ArrayList<>();
    state(kept, rich(), "");
    change(x);
    x.voice(0, 0, 1);
    x.sheet(0, 16, 2);
    x.sheet(1, 0, 0);
    x.sheet(3, 32, 1);
    x.put(3, 0, 4);
    due("an ERROR", x.eat(-1), BEYOND);
    due("restore", x.restore(), 6);
    due("what told() tells stays", x.told(1), 1);
    due("THE TRACE stays", x.count(8), 1);
    due("THE TRACE stays", x.body(0), 10);
    due("SHEET 0 stays", x.put(0, 2, 1), BEYOND);
    due("SHEET 1 stays", x.judge(1), NONE);
    due("SHEET 2 stays", x.move(2, 3, 3, 0, 1), 1);
    List<String> is = new ArrayList<>();
    state(is, x, "");
    isSame("the IMAGE", is, kept);
    due("how often stays", x.image(), 3);
    due("of a new object", new BreadSpans().image(), 1);
  }

  private static void restore() throws Exception {
    promise(34);
    says("All is as the IMAGE has it, which stays: DAY.");
    BreadSpans x = rich();
    List<String> kept = new ArrayList<>();
    due("DAY", x.restore(), 4);
    state(kept, x, "");
    for (int i = 0; i < 2; i++) {
      due("DAY", x.restore(), 4);
      List<String> is = new ArrayList<>();
      state(is, x, "");
      isSame("the IMAGE", is, kept);
      change(x);
    }
    due("four SPANS", x.restore() + 10 * x.count(0), 44);
    due("no TEXTS", noTexts().untell(0) + noTexts().untell(1), 0);
    due("of an IMAGE at 0", imageAtFirst().restore(), 0);
    due("no SPANS", imageAtFirst().count(0), 0);
    says("NONE: there is none.");
    changesNothing("restore()", () -> withSpans(5, 0, 1), NONE, y -> y.restore());
    due("none told", new BreadSpans().restore(), NONE);
  }

  /** An IMAGE of TEXTS that are told no more, ahead of TEXTS. */
  private static BreadSpans noTexts() {
    BreadSpans x = rich();
    x.text(0);
    x.untell(0);
    x.untell(1);
    x.image();
    written(x, 0, "2");
    written(x, 1, "2");
    x.restore();
    return x;
  }

  private static BreadSpans imageAtFirst() {
    BreadSpans x = new BreadSpans();
    x.image();
    x.span(0, 0, 1);
    x.days(5);
    x.restore();
    return x;
  }

  private static void tell() throws Exception {
    promise(35);
    says("One more number waits: how many.");
    BreadSpans x = new BreadSpans();
    int[] any = {LEAST, MOST, BEYOND, 0, -1};
    for (int i = 0; i < 24; i++) {
      due("tell", x.tell(any[i % 5]), i + 1);
      due("that wait", x.count(7), i + 1);
    }
    says("FULL: 24 wait.");
    due("the last", withWaiting(23).tell(6), 24);
    changesNothing("one more", () -> withWaiting(24), FULL, y -> y.tell(6));
    changesNothing("one more", () -> withWaiting(24), FULL, y -> y.tell(LEAST));
    x.check();
    due("none wait", x.tell(1), 1);
  }

  private static void checked(int want, int... numbers) {
    BreadSpans x = rich();
    x.check();
    for (int v : numbers) {
      x.tell(v);
    }
    due("check()", x.check(), want);
    due("none wait", x.count(7), 0);
    due("check() again", x.check(), 0);
    due("no ERROR", x.told(1) + x.told(2) + x.told(3), 0);
  }

  private static void check() throws Exception {
    promise(36);
    says("The numbers that wait (none do then) are AGES of SPANS 0, 1, ..: 0; else 1 and the place (from"
        + " 0) of the first that isn't so (or for which there is no SPAN).");
    checked(0);
    checked(0, 6);
    checked(0, 6, 6, 6, 6, 2);
    checked(1, 5, 6, 6, 6, 2);
    checked(1, 7, 0);
    checked(5, 6, 6, 6, 6, 3);
    checked(2, 6, 7, 6, 6, 3);
    checked(6, 6, 6, 6, 6, 2, 0);
    checked(1, 6 + 256, 6);
    checked(1, LEAST);
    checked(6, 6, 6, 6, 6, 2, 0, 0, 0, 0, 0, 0, 0, 0, 0, 0, 0, 0, 0, 0, 0, 0, 0, 0, 0);
    BreadSpans none = new BreadSpans();
    none.tell(0);
    due("no SPANS", none.check(), 1);
  }

  private static void count() throws Exception {
    promise(37);
    says("0 SPANS, 1 DAY, 2 RAIN, 3 FLOUR, 4 LOST, 5 TOLL, 6 bytes of THE TAPE, 7 numbers that wait, 8"
        + " BODIES in THE TRACE, 9 z (any number).");
    int[] counts = {5, 6, 3, 3, 90, 6, 5, 2, 6, 77};
    for (int what = 0; what < 10; what++) {
      int w = what;
      changesNothing("count(" + w + ")", Twins::rich, counts[w], x -> x.count(w));
    }
    BreadSpans x = new BreadSpans();
    x.seed(BEYOND);
    due("z", x.count(9), BEYOND);
    due("no ERROR", x.told(1), 0);
    says("BEYOND.");
    beyondAt("count(?)", 0, 9, (y, v) -> y.count(v));
  }

  private static void told() throws Exception {
    promise(38);
    says("How many acts have answered an ERROR LOW - k (k 1 .. 6);");
    Act[] acts = {
      x -> x.eat(-1), x -> x.body(-1), x -> x.bakes(0), x -> withAllWaiting(x).tell(0),
      x -> x.as(0, 1), x -> partedIn(x)
    };
    for (int k = 1; k <= 6; k++) {
      BreadSpans x = rich();
      for (int times = 1; times <= 3; times++) {
        due("ERROR " + k, acts[k - 1].on(x), LOW - k);
        for (int of = 1; of <= 6; of++) {
          due("told(" + of + ")", x.told(of), of == k ? times : 0);
        }
      }
    }
    says("BEYOND: another k (counted, too).");
    beyondAt("told(?)", 1, 6, (x, v) -> x.told(v));
    BreadSpans y = new BreadSpans();
    due("0", y.told(0), BEYOND);
    due("7", y.told(7), BEYOND);
    due("counted, too", y.told(1), 2);
    due("telling changes nothing", y.told(1), 2);
  }

  private static BreadSpans withAllWaiting(BreadSpans x) {
    while (x.count(7) < 24) {
      x.tell(0);
    }
    return x;
  }

  private static int partedIn(BreadSpans x) {
    x.become(0, 0);
    return x.voice(0, 3, 1);
  }
}
