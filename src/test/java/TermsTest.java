/**
 * The document's Terms, sentence by sentence: the last that is taken and the first that isn't, on
 * both sides; the first and the last place; nothing there, and full; numbers that wrap.
 */
public final class TermsTest extends Sentences {
  private static final String LONG_TEXT = "(((((1)))))+(((((1)))))+(((((1)))))+(((((1)))))+(((((1)))))";

  public static void main(String[] args) throws Exception {
    under("What it is", "An object is used");
    calls();
    under("Terms", "");
    errors();
    order();
    cuts();
    placesAndStores();
    days();
    counted();
    spans();
    kinds();
    numbersOfSpans();
    bearsLoaf();
    bearsOthers();
    takes();
    bakedAnew();
    crossed();
    aDay();
    byDraws();
    draws();
    tape();
    grammar();
    comparedOnce();
    ones();
    openOnes();
    worksOut();
    faults();
    usesSoaks();
    usesCrumbs();
    onlyThought();
    joined();
    greatestLoad();
    baking();
    eating();
    lasts();
    then();
    odds();
    fits();
    voices();
    bodies();
    bodiesAbove();
    whichBody();
    theTrace();
    sheets();
    endOfSentences();
  }

  // ---- what it is, and what stands ahead of 1

  private static void calls() {
    says("An object is used for at most 512 calls after it has been made; what later calls answer is"
        + " free.");
    BreadSpans x = new BreadSpans();
    for (int i = 1; i <= 510; i++) {
      due("day " + i, x.days(1), i);
    }
    due("call 511", x.tell(7), 1);
    due("call 512", x.count(7), 1);
  }

  private static void errors() {
    says("ERRORS are answers below -1000000000: LOW is -1000000000; LOW - 1 BEYOND, LOW - 2 NONE,"
        + " LOW - 3 STATE, LOW - 4 FULL, LOW - 5 KIND, LOW - 6 PARTED (in longs, too).");
    BreadSpans x = withSpans(0, 0, 1);
    due("BEYOND", x.eat(1), -1000000001);
    due("NONE", x.restore(), -1000000002);
    due("STATE", x.sheet(0, 8, -1), -1000000003);
    for (int i = 0; i < 24; i++) {
      x.tell(i);
    }
    due("FULL", x.tell(0), -1000000004);
    due("KIND", x.as(0, 1), -1000000005);
    due("PARTED", x.voice(0, 3, 0), -1000000006);
    due("one of each", x.told(1) * 100000 + x.told(2) * 10000 + x.told(3) * 1000 + x.told(4) * 100
        + x.told(5) * 10 + x.told(6), 111111);
  }

  private static void order() {
    says("Each act tells its ERRORS in the order in which they are asked; one that answers an ERROR"
        + " changes nothing but what told() tells, or where told.");
    BreadSpans x = withSpans(0, 0, 1, 0, 0, 1, 0, 0, 1, 0, 0, 1, 0, 0, 1, 0, 0, 1, 0, 0, 1, 0, 0, 1,
        0, 0, 1);
    due("span: FULL", x.span(0, 0, 1), FULL);
    due("span: BEYOND ahead of FULL, km", x.span(70, 0, 1), BEYOND);
    due("span: BEYOND ahead of FULL, one", x.span(0, 8, 1), BEYOND);
    due("span: BEYOND ahead of FULL, other", x.span(0, 0, -1), BEYOND);
    due("span: BEYOND ahead of FULL, twice", x.span(0, 1, 1), BEYOND);
    x.eat(8);
    due("cross: STATE", x.cross(8, 99), STATE);
    due("cross: BEYOND ahead of STATE", x.cross(8, 100), BEYOND);
    due("cross: BEYOND ahead of STATE", x.cross(8, -1), BEYOND);
    due("load: NONE", x.load(2, 3), NONE);
    due("load: BEYOND ahead of NONE", x.load(2, 8), BEYOND);
    due("load: BEYOND ahead of NONE, twice", x.load(2, 2), BEYOND);
    due("baking: NONE", x.baking(2, 3, 0, 0), NONE);
    due("baking: BEYOND ahead of NONE", x.baking(2, 2, 0, 0), BEYOND);
    due("baking: BEYOND ahead of NONE", x.baking(2, 3, 100, 0), BEYOND);
    due("baking: BEYOND ahead of NONE", x.baking(2, 3, 0, 2), BEYOND);
    due("lasts: NONE", x.lasts(0, 1, 0), NONE);
    due("lasts: BEYOND ahead of NONE", x.lasts(0, 1, -1), BEYOND);
    due("voice: PARTED", x.voice(0, 3, 1), PARTED);
    due("voice: BEYOND ahead of PARTED", x.voice(9, 3, 1), BEYOND);
    orderOfTapeAndDays();
    orderOfSheets();
  }

  private static void orderOfTapeAndDays() {
    BreadSpans x = new BreadSpans();
    for (int i = 0; i < 7; i++) {
      x.feed(0L, 8);
    }
    due("feed: FULL", x.feed(0L, 5), FULL);
    due("feed: BEYOND ahead of FULL", x.feed(0L, 9), BEYOND);
    ages(x, 9999);
    due("days: STATE", x.days(60), STATE);
    due("days: BEYOND ahead of STATE", x.days(61), BEYOND);
    due("loose: STATE", x.loose(30), STATE);
    due("loose: BEYOND ahead of STATE", x.loose(31), BEYOND);
  }

  private static void orderOfSheets() {
    BreadSpans x = new BreadSpans();
    due("sheet: BEYOND ahead of STATE", x.sheet(4, 8, -1), BEYOND);
    due("sheet: BEYOND of bits ahead of STATE", x.sheet(0, 9, -1), BEYOND);
    due("sheet: STATE", x.sheet(0, 32, -1), STATE);
    due("put: BEYOND", x.put(4, -1, 0), BEYOND);
    due("put: NONE ahead of BEYOND of the number", x.put(3, -1, 0), NONE);
    due("move: BEYOND ahead of NONE", x.move(0, 0, 4, 0, 0), BEYOND);
    due("move: BEYOND ahead of NONE", x.move(-1, 0, 0, 0, 0), BEYOND);
    x.sheet(0, 8, 1);
    due("move: NONE ahead of BEYOND of the numbers", x.move(0, 0, 1, 0, -1), NONE);
    due("move: NONE ahead of BEYOND of the numbers", x.move(1, 0, 0, 9, 9), NONE);
    x.sheet(1, 16, 1);
    due("move: KIND ahead of BEYOND of the numbers", x.move(0, 9, 1, 9, 9), KIND);
    due("move: BEYOND", x.move(0, 9, 0, 9, 9), BEYOND);
  }

  private static void cuts() {
    says("Quotients are cut toward 0.");
    BreadSpans x = withSpans(39, 0, 1, 0, 0, 1);
    due("29 by 10", x.law(1, 29, 0, 0), 3);
    due("-9 by 10", x.law(1, -9, 0, 0), 1);
    due("-10 by 10", x.law(1, -10, 0, 0), 0);
    gives("(0-7)/2", 0, 0, 0, -3);
    gives("7/(0-2)", 0, 0, 0, -3);
    due("-19 by 9", x.voice(0, 3, -19), -2);
    due("19 by -1", x.voice(1, 3, 19), -19);
    due("-3 by 2", x.voice(0, 2, -3), -11);
  }

  // ---- 1

  private static void placesAndStores() {
    says("PLACES 0 .. 7.");
    BreadSpans x = withSpans(0, 0, 7);
    due("the first", x.joined(0, 0), 129);
    due("the last", x.joined(7, 0), 129);
    due("ahead of the first", x.joined(-1, 0), BEYOND);
    due("behind the last", x.joined(8, 0), BEYOND);
    due("ahead of the first", x.span(0, 0, -1), BEYOND);
    due("behind the last", x.span(0, 8, 0), BEYOND);
    says("RAIN (0 .. 9; 0 at first)");
    due("at first", x.count(2), 0);
    due("the most", x.store(1, 9), 0);
    due("more", x.store(1, 10), BEYOND);
    due("the most stays", x.count(2), 9);
    due("the least", x.store(1, 0), 9);
    due("less", x.store(1, -1), BEYOND);
    due("the least stays", x.count(2), 0);
    says("FLOUR in store (0 .. 9999; 200 at first)");
    due("at first", x.count(3), 200);
    due("the most", x.store(0, 9999), 200);
    due("more", x.store(0, 10000), BEYOND);
    due("the most stays", x.count(3), 9999);
    due("the least", x.store(0, 0), 9999);
    due("less", x.store(0, -1), BEYOND);
    due("the least stays", x.count(3), 0);
  }

  private static void days() {
    says("DAY (0 .. 9999; 0 at first)");
    BreadSpans x = new BreadSpans();
    due("at first", x.count(1), 0);
    ages(x, 9998);
    due("two more", x.days(2), STATE);
    due("the last", x.days(1), 9999);
    due("one more", x.days(1), STATE);
    due("one more by draws", x.loose(1), STATE);
    due("it stays", x.count(1), 9999);
  }

  /** LOST can't come to 99999: 512 calls lose 99 each at the most. */
  private static void counted() {
    says("LOST, TOLL (0 .. 99999; 0 at first).");
    BreadSpans x = withSpans(40, 0, 1, 0, 0, 1);
    due("LOST at first", x.count(4), 0);
    due("TOLL at first", x.count(5), 0);
    x.eat(1);
    written(x, 1, "99");
    x.days(11);
    // Stone bears whatever is drawn; half of the draws meet the one that is GONE.
    x.become(1, 40);
    x.bakes(1);
    x.days(11);
    for (int i = 0; i < 33; i++) {
      due("none breaks", x.loose(30), 0);
    }
    due("thirty a call", x.count(5), 33 * 30 * 99);
    for (int i = 0; i < 20; i++) {
      x.cross(0, 1);
    }
    due("nearly", x.count(5), 99990);
    written(x, 1, "8");
    due("nearly", x.cross(0, 1), 8);
    due("one less than the most", x.count(5), 99998);
    written(x, 1, "1");
    due("the most", x.cross(0, 1), 1);
    due("the most", x.count(5), 99999);
    due("more", x.cross(0, 1), 1);
    due("held", x.count(5), 99999);
    due("LOST stays", x.count(4), 0);
  }

  private static void spans() {
    says("SPANS 0, 1, .. (at most 9)");
    BreadSpans x = new BreadSpans();
    due("none", x.spanIs(0, 0), BEYOND);
    for (int i = 0; i < 9; i++) {
      due("not yet", x.spanIs(i, 0), BEYOND);
      due("one more", x.span(10, i % 8, (i + 1) % 8), i);
      due("it is there", x.spanIs(i, 0), 1);
    }
    due("the tenth", x.span(10, 0, 1), FULL);
    due("nine", x.count(0), 9);
    due("no tenth", x.spanIs(9, 0), BEYOND);
    says(", each between two PLACES (both ways; several may be between the same ones)");
    BreadSpans y = withSpans(0, 2, 3, 0, 3, 2, 0, 2, 3);
    due("both ways", y.joined(2, 0), 12);
    due("both ways", y.joined(3, 0), 12);
    y.eat(0);
    y.eat(2);
    due("another one", y.joined(2, 0), 12);
    due("another one", y.joined(3, 0), 12);
    y.eat(1);
    due("none is left", y.joined(2, 0), 4);
    due("none is left", y.joined(3, 0), 8);
  }

  private static void kinds() {
    says("of KINDS: 0 LOAF, 1 RYE under LOAF, 2 BRIOCHE under LOAF, 3 CART under LOAF, 4 BARLEY under"
        + " RYE, 5 TOAST under BRIOCHE, 6 PIETY under LOAF;");
    int[][] above = {{0}, {1, 0}, {2, 0}, {3, 0}, {4, 1, 0}, {5, 2, 0}, {6, 0}};
    for (int kind = 0; kind < 7; kind++) {
      BreadSpans x = withSpans(10 * kind + 3, 0, 1);
      int as = 0;
      for (int k : above[kind]) {
        due("KIND " + kind + " as " + k, x.as(0, k), 3);
        as++;
      }
      for (int k = 0; k < 7; k++) {
        as += x.as(0, k) == KIND ? 1 : 0;
      }
      due("KIND " + kind + " as no other", as, 7);
      due("no KIND below", x.as(0, -1), BEYOND);
      due("no KIND above", x.as(0, 7), BEYOND);
    }
  }

  private static void numbersOfSpans() {
    says("each with a number m (0 .. 9)");
    BreadSpans x = withSpans(0, 0, 1, 9, 0, 1, 10, 0, 1, 60, 0, 1, 69, 0, 1);
    int[] km = {0, 9, 10, 60, 69};
    for (int i = 0; i < km.length; i++) {
      due("KIND of " + km[i], x.spanIs(i, 0), km[i] / 10);
      due("m of " + km[i], x.spanIs(i, 1), km[i] % 10);
    }
    due("below", x.span(-1, 0, 1), BEYOND);
    due("above", x.span(70, 0, 1), BEYOND);
    says("AGE (0 .. 99; 0 at first)");
    due("at first", x.spanIs(0, 4), 0);
    ages(x, 98);
    due("one less than the most", x.spanIs(0, 4), 98);
    x.days(1);
    due("the most", x.spanIs(0, 4), 99);
    x.days(1);
    due("held", x.spanIs(0, 4), 99);
    due("held in thought", x.then(0, 60), 0);
    says("WET (0 .. 9; 0 at first)");
    BreadSpans y = withSpans(0, 0, 1);
    due("at first", y.soak(0, 9), 0);
    due("more", y.soak(0, 10), BEYOND);
    due("the most", y.soak(0, 0), 9);
    due("less", y.soak(0, -1), BEYOND);
    due("the least", y.spanIs(0, 5), 0);
    says("GONE (1) or not (0, at first).");
    due("at first", y.spanIs(0, 6), 0);
    y.eat(0);
    due("GONE", y.spanIs(0, 6), 1);
    y.eat(0);
    due("GONE still", y.spanIs(0, 6), 1);
  }

  /** A new SPAN of that AGE (DAY is as much), so WET, and what it BEARS. */
  private static void bears(int km, int age, int wet, int want) {
    BreadSpans x = withSpans(km, 0, 1);
    ages(x, age);
    x.soak(0, wet);
    due(km + " of AGE " + age + ", WET " + wet + " BEARS", x.spanIs(0, 7), want);
  }

  private static void bearsLoaf() {
    says("BEARS: LOAF: 20 less twice AGE and 3 times WET (0 at least), and m.");
    bears(0, 0, 0, 20);
    bears(9, 0, 0, 29);
    bears(0, 9, 0, 2);
    bears(0, 10, 0, 0);
    bears(0, 11, 0, 0);
    bears(0, 0, 6, 2);
    bears(0, 0, 7, 0);
    bears(0, 2, 5, 1);
    bears(0, 1, 6, 0);
    bears(0, 3, 5, 0);
    bears(9, 10, 0, 9);
    bears(9, 99, 9, 9);
    bears(0, 100, 9, 0);
  }

  private static void bearsOthers() {
    says("RYE: as LOAF, and 10.");
    bears(10, 0, 0, 30);
    bears(10, 9, 0, 12);
    bears(10, 10, 0, 10);
    bears(19, 99, 9, 19);
    says("BRIOCHE: as LOAF, less 8 (0 at least).");
    bears(20, 0, 0, 12);
    bears(20, 5, 0, 2);
    bears(21, 6, 0, 1);
    bears(20, 6, 0, 0);
    bears(20, 7, 0, 0);
    bears(29, 99, 9, 1);
    bears(28, 99, 9, 0);
    bears(27, 99, 9, 0);
    says("CART: 8 and twice AGE (40 at most).");
    bears(30, 0, 0, 8);
    bears(39, 0, 9, 8);
    bears(30, 15, 0, 38);
    bears(30, 16, 0, 40);
    bears(30, 17, 9, 40);
    bears(39, 99, 0, 40);
    says("BARLEY: if AGE is above 10, 60 and m; else as RYE.");
    bears(49, 0, 0, 39);
    bears(40, 10, 0, 10);
    bears(49, 10, 9, 19);
    bears(40, 11, 0, 60);
    bears(49, 99, 9, 69);
    says("TOAST: as BRIOCHE, and twice WET.");
    bears(50, 0, 0, 12);
    bears(50, 0, 1, 11);
    bears(50, 0, 4, 8);
    bears(50, 0, 9, 18);
    bears(59, 99, 9, 19);
    bears(50, 99, 0, 0);
    says("PIETY: as LOAF, and the rest of DAY by 7.");
    bears(60, 0, 0, 20);
    bears(60, 6, 0, 14);
    bears(60, 7, 0, 6);
    bears(60, 8, 0, 5);
    bears(69, 13, 9, 15);
    bears(69, 14, 9, 9);
    says("One that is GONE: -1.");
    for (int kind = 0; kind < 7; kind++) {
      BreadSpans x = withSpans(10 * kind + 9, 0, 1);
      x.eat(0);
      due("KIND " + kind, x.spanIs(0, 7), -1);
      x.days(13);
      due("KIND " + kind + " later", x.spanIs(0, 7), -1);
      due("KIND " + kind + " in thought", x.then(0, 60), -1);
    }
  }

  private static void takes(int km, int age, int want) {
    BreadSpans x = withSpans(km, 0, 1);
    ages(x, age);
    due(km + " of AGE " + age + " TAKES", x.spanIs(0, 8), want);
    x.eat(0);
    due(km + " of AGE " + age + " TAKES, when GONE", x.spanIs(0, 8), want);
  }

  private static void takes() {
    says("TAKES (FLOUR): LOAF, CART: 5 and m.");
    takes(0, 0, 5);
    takes(9, 5, 14);
    takes(30, 0, 5);
    takes(39, 5, 14);
    says("RYE: as LOAF, and 3.");
    takes(10, 0, 8);
    takes(19, 1, 17);
    says("BRIOCHE: twice LOAF's.");
    takes(20, 0, 10);
    takes(29, 1, 28);
    says("BARLEY: as RYE, less 4.");
    takes(40, 0, 4);
    takes(49, 11, 13);
    says("TOAST: as BRIOCHE, and the rest of AGE by 3.");
    takes(50, 0, 10);
    takes(50, 2, 12);
    takes(50, 3, 10);
    takes(59, 98, 30);
    takes(59, 99, 28);
    takes(59, 100, 28);
    says("PIETY: 0.");
    takes(60, 0, 0);
    takes(69, 5, 0);
  }

  private static void bakedAnew() {
    says("TO BAKE a SPAN anew: AGE and WET are 0, it isn't GONE.");
    BreadSpans x = withSpans(23, 4, 5);
    ages(x, 99);
    x.soak(0, 9);
    x.eat(0);
    due("TAKES", x.bakes(0), 16);
    int[] is = {2, 3, 4, 5, 0, 0, 0, 15, 16};
    for (int what = 0; what < is.length; what++) {
      due("spanIs(0, " + what + ")", x.spanIs(0, what), is[what]);
    }
    due("DAY stays", x.count(1), 99);
  }

  private static void crossed() {
    says("TO CROSS one that isn't GONE with a load x: if it BEARS less than x, it is GONE, and LOST is"
        + " x more (held at 99999); else TOLL is more by what the TEXT of that USE gives (held"
        + " likewise).");
    BreadSpans x = withSpans(20, 0, 1, 49, 0, 1);
    due("what it BEARS", x.cross(0, 12), 2);
    due("not GONE", x.spanIs(0, 6), 0);
    due("TOLL", x.count(5), 2);
    due("LOST", x.count(4), 0);
    due("one more", x.cross(0, 13), -1);
    due("GONE", x.spanIs(0, 6), 1);
    due("TOLL stays", x.count(5), 2);
    due("LOST", x.count(4), 13);
    x.bakes(0);
    x.days(6);
    due("nothing, when it BEARS nothing", x.cross(0, 0), 1);
    due("one, when it BEARS nothing", x.cross(0, 1), -1);
    due("LOST", x.count(4), 14);
    due("TOLL", x.count(5), 3);
    x.days(5);
    due("stone, what it BEARS", x.cross(1, 69), 7);
    due("stone, one more", x.cross(1, 70), -1);
    due("LOST", x.count(4), 84);
    x.become(0, 0);
    x.bakes(0);
    written(x, 1, "0");
    due("a TEXT that gives nothing", x.cross(0, 1), 0);
    due("TOLL stays", x.count(5), 10);
    due("the most", x.cross(0, 99), -1);
    due("LOST", x.count(4), 183);
  }

  /** A DAY with a TEXT: WET ahead of it and behind it. */
  private static void wetBehind(String text, int wet, int want) {
    BreadSpans x = withSpans(0, 0, 1);
    written(x, 0, text);
    x.soak(0, wet);
    x.days(1);
    due("WET " + wet + " behind a DAY by " + text, x.spanIs(0, 5), want);
  }

  private static void aDay() {
    says("A DAY goes by: of each SPAN, by numbers (GONE or not): WET is SOAKS more (held within 0 .. 9)"
        + ", AGE is 1 more (held at 99).");
    wetBehind("1", 8, 9);
    wetBehind("1", 9, 9);
    wetBehind("0-1", 1, 0);
    wetBehind("0-1", 0, 0);
    wetBehind("9", 0, 9);
    wetBehind("9", 1, 9);
    wetBehind("9", 9, 9);
    wetBehind("0-9", 9, 0);
    wetBehind("0-9", 8, 0);
    wetBehind("99", 0, 9);
    wetBehind("0-99", 9, 0);
    wetBehind("0", 5, 5);
    BreadSpans x = new BreadSpans();
    for (int i = 0; i < 9; i++) {
      x.span(i, 0, 1);
    }
    x.store(1, 1);
    x.eat(0);
    x.eat(8);
    x.days(1);
    for (int i = 0; i < 9; i++) {
      due("WET of " + i, x.spanIs(i, 5), 1);
      due("AGE of " + i, x.spanIs(i, 4), 1);
      due("GONE or not, " + i, x.spanIs(i, 6), i == 0 || i == 8 ? 1 : 0);
    }
    says("DAY is 1 more.");
    due("DAY", x.count(1), 1);
    due("DAY", x.days(1), 2);
    due("without SPANS", new BreadSpans().days(1), 1);
  }

  /** A z from which the three draws of a DAY have these rests; -1: any. */
  private static int zFor(int rain, int span, int many, int load) {
    for (int z = 0; z < 10000000; z++) {
      drawFrom(z);
      if ((draw() % 16 == rain || rain < 0) && (draw() % many == span || span < 0)
          && (draw() % 30 == load || load < 0)) {
        return z;
      }
    }
    isWrong("no z draws so");
    return 0;
  }

  private static void byDraws() {
    says("BY DRAWS a DAY: a draw: RAIN is its rest by 16, less 6 (0 at least);");
    int[] rain = {0, 0, 0, 0, 0, 0, 0, 1, 2, 3, 4, 5, 6, 7, 8, 9};
    for (int rest = 0; rest < 16; rest++) {
      BreadSpans x = withSpans(0, 0, 1);
      x.store(1, 5);
      x.seed(zFor(rest, -1, 1, 0));
      due("none breaks", x.loose(1), 0);
      due("RAIN for the rest " + rest, x.count(2), rain[rest]);
      due("it soaks that DAY", x.spanIs(0, 5), rest > 6 ? 1 : 0);
    }
    says("if there are SPANS, two draws: the one that is the first one's rest by how many there are is"
        + " CROSSED with a load that is the second one's rest by 30, if it isn't GONE; then a DAY.");
    BreadSpans none = new BreadSpans();
    none.loose(1);
    drawFrom(1);
    draw();
    due("no SPANS: one draw", none.count(9), drawn());
    byDrawsOnNine();
    byDrawsLoads();
  }

  private static void byDrawsOnNine() {
    for (int span = 0; span < 9; span++) {
      BreadSpans x = new BreadSpans();
      for (int i = 0; i < 9; i++) {
        x.span(20, 0, 1);
      }
      x.seed(zFor(-1, span, 9, 13));
      due("breaks", x.loose(1), 1);
      due("three draws", x.count(9), drawn());
      for (int i = 0; i < 9; i++) {
        due("GONE: " + i + " of " + span, x.spanIs(i, 6), i == span ? 1 : 0);
      }
      due("LOST", x.count(4), 13);
    }
  }

  private static void byDrawsLoads() {
    for (int load = 0; load < 30; load++) {
      BreadSpans x = withSpans(0, 0, 1);
      x.seed(zFor(-1, 0, 1, load));
      due("load " + load, x.loose(1), load > 20 ? 1 : 0);
      due("TOLL for " + load, x.count(5), load > 20 ? 0 : load / 10 + 1);
      due("LOST for " + load, x.count(4), load > 20 ? load : 0);
      due("a DAY", x.spanIs(0, 4), 1);
    }
    BreadSpans x = withSpans(0, 0, 1);
    written(x, 1, "0");
    x.seed(zFor(-1, 0, 1, 20));
    due("no crumbs, and it doesn't break", x.loose(1), 0);
    due("not GONE", x.spanIs(0, 6), 0);
    BreadSpans y = withSpans(0, 0, 1);
    y.eat(0);
    y.seed(zFor(-1, 0, 1, 29));
    due("GONE already", y.loose(1), 0);
    due("three draws", y.count(9), drawn());
    due("LOST stays", y.count(4), 0);
    due("TOLL stays", y.count(5), 0);
  }

  private static void draws() {
    says("DRAWS: z is told (1 at first); each makes it z * 1103515245 + 12345 (an int), and gives z >>>"
        + " 8.");
    BreadSpans x = new BreadSpans();
    due("at first", x.count(9), 1);
    x.loose(1);
    due("one draw", x.count(9), 1103527590);
    drawFrom(1103527590);
    draw();
    x.loose(1);
    due("it wraps", x.count(9), drawn());
    int[] any = {0, -1, LEAST, MOST, 1 << 30, -987654321};
    int below = 0;
    for (int z : any) {
      x.seed(z);
      drawFrom(z);
      int rain = Math.max(0, draw() % 16 - 6);
      below += drawn() < 0 ? 1 : 0;
      x.loose(1);
      due("z behind " + z, x.count(9), drawn());
      due("RAIN behind " + z, x.count(2), rain);
    }
    due("some are below 0", below > 0 ? 1 : 0, 1);
  }

  // ---- 2

  private static void tape() {
    says("TEXTS are read from THE TAPE (bytes, at most 60):");
    BreadSpans x = new BreadSpans();
    tape(x, LONG_TEXT + "0");
    due("sixty", x.count(6), 60);
    due("one more", x.feed('0', 1), FULL);
    due("sixty still", x.count(6), 60);
    due("no TEXT", x.text(0), -10 - 59);
    tape(x, LONG_TEXT.replaceFirst("1", "11"));
    due("sixty again", x.count(6), 60);
    due("a TEXT of sixty", x.text(1), 1);
    due("what it gives", x.law(1, 0, 0, 0), 15);
  }

  /** A chain of thirty ones, in 59 bytes. */
  private static String chain(String sign) {
    return "1" + (sign + "1").repeat(29);
  }

  private static void taken(int use, String text) {
    written(new BreadSpans(), use, text);
  }

  private static void grammar() {
    says("T: A { | A }.");
    gives(chain("|"), 0, 0, 0, 1);
    gives("0|0|1", 0, 0, 0, 1);
    faulty(0, "|1", 0);
    faulty(0, "1|", 2);
    faulty(0, "1||1", 2);
    says("A: B { & B }.");
    gives(chain("&"), 0, 0, 0, 1);
    gives("1&1&0", 0, 0, 0, 0);
    gives("1|0&0", 0, 0, 0, 1);
    faulty(0, "&1", 0);
    faulty(0, "1&", 2);
    faulty(0, "1&|1", 2);
    says("S: P { + P, - P }.");
    gives("1" + "+1".repeat(27) + "=28", 0, 0, 0, 1);
    gives("40" + "-1".repeat(27) + "=13", 0, 0, 0, 1);
    gives("9-4-3", 0, 0, 0, 2);
    gives("9-4+3", 0, 0, 0, 8);
    faulty(0, "+1", 0);
    faulty(0, "-1", 0);
    faulty(0, "1+", 2);
    faulty(0, "1-", 2);
    faulty(0, "1-+1", 2);
    says("P: Q { * Q, / Q, % Q }.");
    gives(chain("*"), 0, 0, 0, 1);
    gives(chain("/"), 0, 0, 0, 1);
    gives(chain("%"), 0, 0, 0, 0);
    gives("9/2*2", 0, 0, 0, 8);
    gives("2*9%4", 0, 0, 0, 2);
    gives("2+9%4*3", 0, 0, 0, 5);
    faulty(0, "*1", 0);
    faulty(0, "/1", 0);
    faulty(0, "%1", 0);
    faulty(0, "1*", 2);
    faulty(0, "1/", 2);
    faulty(0, "1%", 2);
    faulty(0, "1*/1", 2);
  }

  private static void comparedOnce() {
    says("B: S, or S < S, S = S, S > S.");
    gives("1+1<3", 0, 0, 0, 1);
    gives("2=1+1", 0, 0, 0, 1);
    gives("3>1+1", 0, 0, 0, 1);
    gives("(1<2)<2", 0, 0, 0, 1);
    gives("1<2&2<3|3<3", 0, 0, 0, 1);
    for (String first : new String[] {"<", "=", ">"}) {
      faulty(0, first + "1", 0);
      faulty(0, "1" + first, 2);
      for (String second : new String[] {"<", "=", ">"}) {
        faulty(0, "1" + first + "2" + second + "3", 3);
        faulty(0, "1" + first + second + "2", 2);
        faulty(0, "(1" + first + "2" + second + "3)", 4);
      }
    }
  }

  private static void ones() {
    says("Q: a NUMBER of 1 to 4 digits, a NAME, ! Q, ( T ).");
    gives("9", 0, 0, 0, 9);
    gives("0", 0, 0, 0, 0);
    gives("9999-9990", 0, 0, 0, 9);
    gives("0009", 0, 0, 0, 9);
    gives("0000", 0, 0, 0, 0);
    faulty(0, "12345", 4);
    faulty(0, "00000", 4);
    faulty(0, "1+12345", 6);
    gives("r", 5, 6, 7, 5);
    gives("w", 5, 6, 7, 6);
    gives("k", 5, 6, 7, 7);
    faulty(0, "rw", 1);
    faulty(0, "r1", 1);
    faulty(0, "1r", 1);
    faulty(0, "r(1)", 1);
    faulty(0, "(1)r", 3);
    gives("!r", 0, 6, 7, 1);
    gives("!!r", 5, 6, 7, 1);
    gives("!r+2", 5, 6, 7, 2);
    faulty(0, "!", 1);
    faulty(0, "!+1", 1);
    faulty(0, "1!", 1);
    gives("(r|w)", 0, 0, 7, 0);
    gives("(1<2)+(2>1)", 0, 0, 0, 2);
    faulty(0, "(", 1);
    faulty(0, "()", 1);
    faulty(0, ")", 0);
    faulty(0, "(1", 2);
    faulty(0, "1)", 1);
    faulty(0, "(1))", 3);
    says("No blanks.");
    for (String blank : new String[] {" ", "\t", "\n", "\u0000", "\u00a0"}) {
      faulty(0, blank + "1", 0);
      faulty(0, "1" + blank, 1);
      faulty(0, "1" + blank + "+1", 1);
      faulty(0, "1+" + blank + "1", 2);
      faulty(0, "(" + blank + "1)", 1);
      faulty(0, "1" + blank + "1", 1);
    }
  }

  private static void openOnes() {
    says("At most 5 of ! and ( are open at once.");
    gives("!!!!!0", 0, 0, 0, 1);
    faulty(0, "!!!!!!0", 5);
    gives("(((((4)))))", 0, 0, 0, 4);
    faulty(0, "((((((4))))))", 5);
    gives("!(!(!0))", 0, 0, 0, 1);
    faulty(0, "!(!(!(0)))", 5);
    faulty(0, "(!(!(!0)))", 5);
    gives("(((((1)+(2)))))", 0, 0, 0, 3);
    faulty(0, "(((((1)+((2))))))", 9);
    gives("(((((1)))))+(((((2)))))", 0, 0, 0, 3);
    gives("!!!!!1+!!!!!1", 0, 0, 0, 0);
    gives("((((!1+!0))))", 0, 0, 0, 1);
    faulty(0, "((((!1+!!0))))", 8);
    gives("!1+!1+!1+!1+!1+!1+!0", 0, 0, 0, 1);
  }

  private static void worksOut() {
    says("Ints that wrap;");
    gives("r+1=w", MOST, LEAST, 0, 1);
    gives("r-1=w", LEAST, MOST, 0, 1);
    gives("r*r=1", MOST, 0, 0, 1);
    gives("r*2=0", LEAST, 0, 0, 1);
    gives("0-r=r", LEAST, 0, 0, 1);
    gives("9999*9999*9999<0", 0, 0, 0, 1);
    says("/ cut, % the rest that it leaves, both by 0 are 0;");
    gives("r/w", -7, 2, 0, -3);
    gives("r/w", 7, -2, 0, -3);
    gives("r/w", -7, -2, 0, 3);
    gives("r%w", -7, 2, 0, -1);
    gives("r%w", 7, -2, 0, 1);
    gives("r/w=r", LEAST, -1, 0, 1);
    gives("r%w", LEAST, -1, 0, 0);
    gives("r/w", 7, 0, 0, 0);
    gives("r%w", 7, 0, 0, 0);
    gives("r/w", LEAST, 0, 0, 0);
    gives("0/0+0%0", 0, 0, 0, 0);
    says("| & < = > ! are 1 or 0, what is not 0 being true;");
    for (int yes : new int[] {1, -1, 2, LEAST, MOST}) {
      gives("r|w", yes, 0, 0, 1);
      gives("r|w", 0, yes, 0, 1);
      gives("r&k", yes, 0, -4, 1);
      gives("r&w", yes, 0, 0, 0);
      gives("w&r", yes, 0, 0, 0);
      gives("!r", yes, 0, 0, 0);
      gives("!!r", yes, 0, 0, 1);
    }
    gives("r|w", 0, 0, 0, 0);
    gives("!r", 0, 0, 0, 1);
    gives("r<w", 4, 5, 0, 1);
    gives("r<w", 5, 5, 0, 0);
    gives("r<w", LEAST, MOST, 0, 1);
    gives("r=w", 5, 5, 0, 1);
    gives("r=w", 5, 4, 0, 0);
    gives("r>w", 5, 4, 0, 1);
    gives("r>w", 5, 5, 0, 0);
    gives("r>w", MOST, LEAST, 0, 1);
    says("all is worked out.");
    gives("1|7/r", 0, 0, 0, 1);
    gives("0&7%r", 0, 0, 0, 0);
    gives("0&r|1", 0, 0, 0, 1);
  }

  private static void faults() {
    says("FAULT: the place of the first byte with which no TEXT goes on; how many there are, if it ends"
        + " too early.");
    faulty(0, "", 0);
    faulty(0, "x", 0);
    faulty(0, ")1+2", 0);
    faulty(0, "1+2x", 3);
    faulty(0, "1x)(", 1);
    faulty(0, "(1+2", 4);
    faulty(0, "(1+2+", 5);
    faulty(0, chain("+") + "x", 59);
    faulty(0, chain("+") + "+", 60);
    faulty(0, chain("+").substring(2) + "+x1", 58);
    faulty(0, "(".repeat(5) + "1".repeat(4) + "+1".repeat(25) + "+", 60);
    for (int c = 0; c < 256; c++) {
      if ("0123456789rwk!(".indexOf(c) < 0) {
        faulty(0, "" + (char) c, 0);
        faulty(0, "1+" + (char) c + "1", 2);
      }
      if ("0123456789+-*/%<=>&|".indexOf(c) < 0) {
        faulty(0, "1" + (char) c + "1", 1);
      }
    }
  }

  private static void usesSoaks() {
    says("USES: 0 SOAKS: NAMES r RAIN, w WET, k KIND;");
    for (String name : new String[] {"r", "w", "k"}) {
      taken(0, name);
      faulty(1, name, 0);
    }
    BreadSpans x = withSpans(30, 0, 1, 60, 0, 1);
    written(x, 0, "(r=8)*4+(w=2)*2+(k=6)");
    x.store(1, 8);
    x.soak(0, 2);
    x.soak(1, 1);
    x.days(1);
    due("by RAIN and WET", x.spanIs(0, 5), 2 + 4 + 2);
    due("by RAIN and KIND", x.spanIs(1, 5), 1 + 4 + 1);
    says("held within -9 .. 9;");
    gives("r", 9, 0, 0, 9);
    gives("r", 10, 0, 0, 9);
    gives("r", MOST, 0, 0, 9);
    gives("r", -9, 0, 0, -9);
    gives("r", -10, 0, 0, -9);
    gives("r", LEAST, 0, 0, -9);
    says("without a TEXT 1, if r is above 0, else -1.");
    BreadSpans y = new BreadSpans();
    due("1", y.law(0, 1, 0, 0), 1);
    due("0", y.law(0, 0, 5, 5), -1);
    due("-1", y.law(0, -1, 5, 5), -1);
    due("most", y.law(0, MOST, 0, 0), 1);
    due("least", y.law(0, LEAST, 0, 0), -1);
  }

  private static void usesCrumbs() {
    says("1 CRUMBS (TOLL of one who CROSSES): NAMES l the load, b what it BEARS, m m;");
    for (String name : new String[] {"l", "b", "m"}) {
      taken(1, name);
      faulty(0, name, 0);
    }
    BreadSpans x = withSpans(19, 0, 1);
    written(x, 1, "(l=7)*40+(b=39)*20+(m=9)*10");
    due("by all three", x.cross(0, 7), 70);
    due("by two", x.cross(0, 8), 30);
    says("held within 0 .. 99;");
    written(x, 1, "l+b-m");
    due("99", x.law(1, 99, 0, 0), 99);
    due("100", x.law(1, 99, 1, 0), 99);
    due("most", x.law(1, MOST, 0, 0), 99);
    due("0", x.law(1, 1, 0, 1), 0);
    due("-1", x.law(1, 1, 0, 2), 0);
    due("least", x.law(1, LEAST, 0, 0), 0);
    says("without a TEXT l by 10 (cut), and 1 (held likewise).");
    BreadSpans y = new BreadSpans();
    int[] l = {0, 9, 10, 19, 20, 989, 990, MOST, -1, -9, -10, -19, LEAST};
    int[] crumbs = {1, 1, 2, 2, 3, 99, 99, 99, 1, 1, 0, 0, 0};
    for (int i = 0; i < l.length; i++) {
      due("l " + l[i], y.law(1, l[i], 5, 5), crumbs[i]);
    }
    due("979", y.law(1, 979, 0, 0), 98);
  }

  // ---- 3

  private static void onlyThought() {
    says("(All this is only thought; DAY beyond 9999, too.)");
    BreadSpans x = withSpans(60, 0, 1, 39, 1, 2);
    ages(x, 9999);
    due("9999 by 7", x.spanIs(0, 7), 3);
    due("10000 by 7", x.then(0, 1), 4);
    due("10059 by 7", x.then(0, 60), 0);
    due("on the 10003rd", x.lasts(0, 1, 1), 4);
    due("behind a DAY", x.odds(0, 1, 4, 0), 1);
    due("behind a DAY", x.odds(0, 1, 5, 0), 0);
    x.sheet(0, 8, 1);
    x.put(0, 0, 6);
    due("on the 10002nd", x.fits(0), 3);
    due("DAY stays", x.count(1), 9999);
    due("BEARS as ahead", x.spanIs(0, 7), 3);
  }

  private static void joined() {
    says("JOINED with a PLACE for x: PLACES to which one gets from there over SPANS that BEAR x or more,"
        + " itself, too.");
    BreadSpans x = withSpans(0, 0, 1, 9, 1, 2, 20, 2, 7);
    due("just what it BEARS", x.joined(0, 20), 1 + 2 + 4);
    due("one more", x.joined(0, 21), 1);
    due("the one behind it", x.joined(1, 21), 2 + 4);
    due("just what all BEAR", x.joined(0, 12), 1 + 2 + 4 + 128);
    due("from the other end", x.joined(7, 12), 1 + 2 + 4 + 128);
    due("one more from the other end", x.joined(7, 13), 128);
    due("itself", x.joined(5, 99), 32);
    x.eat(2);
    due("GONE, for 0", x.joined(7, 0), 128);
    due("itself, without SPANS", new BreadSpans().joined(0, 0), 1);
  }

  private static void greatestLoad() {
    says("GREATEST LOAD between two PLACES: the most x (0 .. 99) for which they are JOINED.");
    BreadSpans x = withSpans(49, 0, 1, 20, 1, 2);
    due("on the way", x.load(0, 2), 12);
    x.days(11);
    due("the most that one BEARS", x.load(0, 1), 69);
    due("0", x.load(1, 2), 0);
    x.eat(1);
    due("not even 0", x.load(1, 2), NONE);
  }

  private static void baking() {
    says("BAKING for two PLACES, x: the set of SPANS that TAKE least FLOUR (as now; all together) by"
        + " which, all these being BAKED anew, the two are JOINED for x; of several the least.");
    BreadSpans x = withSpans(0, 0, 1, 0, 1, 0);
    bakingIs(x, 20, 0, 0);
    bakingIs(x, 21, NONE, NONE);
    x.days(10);
    bakingIs(x, 0, 0, 0);
    bakingIs(x, 1, 5, 1);
    bakingIs(x, 20, 5, 1);
    bakingIs(x, 21, NONE, NONE);
    BreadSpans free = withSpans(60, 2, 3, 60, 0, 1, 60, 0, 1);
    free.days(10);
    bakingIs(free, 3, 0, 0);
    bakingIs(free, 23, 0, 2);
    bakingIs(free, 24, NONE, NONE);
    BreadSpans toast = withSpans(50, 0, 1, 26, 0, 1);
    toast.days(2);
    bakingIs(toast, 12, 0, 0);
    toast.eat(1);
    bakingIs(toast, 12, 12, 1);
    BreadSpans two = withSpans(0, 0, 2, 6, 0, 1, 0, 2, 1);
    two.days(10);
    bakingIs(two, 20, 10, 5);
    two.become(1, 5);
    two.eat(1);
    bakingIs(two, 20, 10, 2);
    BreadSpans last = new BreadSpans();
    for (int i = 0; i < 9; i++) {
      last.span(i, 0, 1);
    }
    last.days(20);
    bakingIs(last, 28, 13, 256);
    bakingIs(new BreadSpans(), 0, NONE, NONE);
  }

  private static void bakingIs(BreadSpans x, int load, int flour, int set) {
    due("FLOUR for " + load, x.baking(0, 1, load, 0), flour);
    due("SPANS for " + load, x.baking(1, 0, load, 1), set);
  }

  private static void eating() {
    says("EATING: the fewest SPANS without which the two are not JOINED for x; of several sets the"
        + " least.");
    BreadSpans x = withSpans(0, 0, 2, 0, 2, 1);
    eatingIs(x, 20, 1, 1);
    eatingIs(x, 21, 0, 0);
    x.span(9, 1, 2);
    eatingIs(x, 20, 1, 1);
    x.span(9, 0, 2);
    eatingIs(x, 20, 2, 6);
    x.eat(0);
    eatingIs(x, 20, 1, 8);
    x.eat(3);
    eatingIs(x, 0, 0, 0);
    eatingIs(new BreadSpans(), 0, 0, 0);
    BreadSpans nine = new BreadSpans();
    for (int i = 0; i < 9; i++) {
      nine.span(0, i % 2, 1 - i % 2);
    }
    eatingIs(nine, 0, 9, 511);
    nine.eat(0);
    eatingIs(nine, 0, 8, 510);
  }

  private static void eatingIs(BreadSpans x, int load, int many, int set) {
    due("how many for " + load, x.eating(0, 1, load, 0), many);
    due("SPANS for " + load, x.eating(1, 0, load, 1), set);
  }

  /**
   * A PIETY, which bears 0 each seventh DAY, and a TOAST, which bears 0 when it is dry, each tenth:
   * both bear 0 first behind that many DAYS.
   */
  private static BreadSpans bothNothingBehind(int days) {
    for (int day = 10; day < 17; day++) {
      if ((day + days) % 7 == 0) {
        BreadSpans x = withSpans(60, 0, 1, 50, 0, 1);
        x.days(day);
        written(x, 0, "(w=0)*9-(w>0)");
        x.soak(1, days % 10);
        return x;
      }
    }
    return withSpans();
  }

  private static void lasts() {
    says("LASTS: behind how many DAYS (0 .. 60) the two are first not JOINED for x.");
    for (int days : new int[] {0, 1, 2, 59, 60}) {
      due("both nothing behind " + days, bothNothingBehind(days).lasts(0, 1, 1), days);
    }
    due("behind 61", bothNothingBehind(61).lasts(0, 1, 1), NONE);
    due("for 0", bothNothingBehind(0).lasts(0, 1, 0), NONE);
    BreadSpans x = withSpans(0, 0, 1);
    due("now", x.lasts(0, 1, 21), 0);
    due("one", x.lasts(0, 1, 20), 1);
    due("apart", x.lasts(0, 2, 0), 0);
  }

  private static void then() {
    says("THEN: what a SPAN BEARS, n DAYS on.");
    BreadSpans x = withSpans(9, 0, 1, 49, 0, 1, 30, 0, 1);
    due("now", x.then(0, 0), 29);
    due("behind one", x.then(0, 1), 27);
    due("behind ten", x.then(1, 10), 19);
    due("behind eleven", x.then(1, 11), 69);
    due("behind sixty", x.then(0, 60), 9);
    due("behind sixty", x.then(2, 60), 40);
    due("as ahead", x.then(0, 0), 29);
  }

  private static void odds() {
    says("ODDS: that two are JOINED for x behind a DAY, RAIN being 0 .. 9, each as likely: a fraction in"
        + " lowest terms (0 is 0 by 1).");
    int[] above = {0, 1, 1, 3, 2, 1, 3, 7, 4, 9, 1};
    int[] below = {1, 10, 5, 10, 5, 2, 5, 10, 5, 10, 1};
    for (int many = 0; many <= 10; many++) {
      BreadSpans x = withSpans(0, 0, 1);
      written(x, 0, many == 0 ? "1" : "r>" + (many - 1));
      due(many + " of 10, above", x.odds(0, 1, 18, 0), above[many]);
      due(many + " of 10, below", x.odds(0, 1, 18, 1), below[many]);
      written(x, 0, many == 0 ? "1" : "r<" + (10 - many));
      due(many + " of 10, above", x.odds(1, 0, 18, 0), above[many]);
      due(many + " of 10, below", x.odds(1, 0, 18, 1), below[many]);
      due("RAIN stays", x.count(2), 0);
    }
  }

  private static void fits() {
    says("FITS: a SHEET tells what SPANS 0, 1, .. BEAR: behind how many DAYS (0 .. 60) first that is"
        + " so.");
    for (int days : new int[] {0, 1, 2, 59, 60}) {
      BreadSpans x = bothNothingBehind(days);
      x.sheet(0, 8, 2);
      due("both nothing behind " + days, x.fits(0), days);
    }
    BreadSpans y = bothNothingBehind(61);
    y.sheet(0, 8, 2);
    due("behind 61", y.fits(0), NONE);
    y.sheet(0, 8, 3);
    due("more numbers than SPANS", y.fits(0), NONE);
    y.sheet(0, 8, 0);
    due("no numbers", y.fits(0), 0);
    y.sheet(1, 16, 1);
    due("fewer numbers than SPANS", y.fits(1), 5);
  }

  // ---- 4

  private static void voices() {
    says("VOICES of a SPAN, with a number x (ints that wrap); k is the number, m as told: 0 crusts, 1"
        + " steams, 2 crumbles, 3 parts.");
    BreadSpans x = new BreadSpans();
    for (int i = 0; i < 9; i++) {
      x.span(9 - i, 0, 1);
    }
    for (int k = 0; k < 9; k++) {
      due("crusts of " + k, x.voice(k, 0, 100), 100 + k);
      due("steams of " + k, x.voice(k, 1, 100), 200 + 2 * k);
      due("crumbles of " + k, x.voice(k, 2, 100), 200 + 2 * k - (9 - k));
      due("parts of " + k, x.voice(k, 3, 1000), 1000 / (9 - 2 * k));
    }
    due("no VOICE ahead", x.voice(0, -1, 0), BEYOND);
    due("no VOICE behind", x.voice(0, 4, 0), BEYOND);
    due("crusts wraps", x.voice(1, 0, MOST), LEAST);
    due("steams wraps", x.voice(0, 1, MOST), -2);
    due("steams wraps", x.voice(0, 1, LEAST), 0);
    due("crumbles wraps", x.voice(0, 2, 1 << 30), MOST - 8);
    due("parts wraps", x.voice(5, 3, LEAST), LEAST);
    x.become(4, 23);
    due("steams of a BRIOCHE wraps", x.voice(4, 1, (1 << 30) - 4), LEAST);
    x.become(4, 13);
    due("crusts of a RYE wraps", x.voice(4, 0, LEAST), LEAST);
    due("crusts of a RYE wraps", x.voice(4, 0, LEAST - 1), MOST);
  }

  private static void bodyIs(BreadSpans x, int span, int voice, int v, int want, int... trace) {
    String call = "voice(" + span + ", " + voice + ", " + v + ") of KIND " + x.spanIs(span, 0);
    due(call, x.voice(span, voice, v), want);
    due("how many BODIES of " + call, x.count(8), trace.length);
    for (int i = 0; i < trace.length; i++) {
      due("BODY " + i + " of " + call, x.body(i), trace[i]);
    }
    due("no more BODIES of " + call, x.body(trace.length), NONE);
  }

  private static void bodies() {
    BreadSpans x = withSpans(0, 0, 1, 0, 0, 1, 7, 0, 1);
    says("BODIES: Loaf: 10 crusts: x + k.");
    bodyIs(x, 2, 0, 5, 7, 10);
    says("11 steams: crusts(x) * 2.");
    bodyIs(x, 2, 1, 5, 14, 11, 10);
    says("12 crumbles: steams(x) - m.");
    bodyIs(x, 2, 2, 5, 7, 12, 11, 10);
    says("13 parts: x by (m - k), cut (PARTED if that is 0; that is all that voice() answers then).");
    bodyIs(x, 2, 3, 14, 2, 13);
    bodyIs(x, 2, 3, -14, -2, 13);
    x.become(2, 3);
    bodyIs(x, 2, 3, LEAST, LEAST, 13);
    x.become(2, 1);
    bodyIs(x, 2, 3, 14, -14, 13);
    x.become(2, 2);
    bodyIs(x, 2, 3, 14, PARTED, 13);
    bodyIs(x, 2, 3, 0, PARTED, 13);
    x.become(2, 12);
    bodyIs(x, 2, 3, 14, PARTED, 21, 13);
    bodyIs(x, 2, 2, 1, -4, 12, 11, 20, 10);
    x.become(2, 42);
    bodyIs(x, 2, 3, 14, PARTED, 21, 13);
    due("told", x.told(6), 4);
  }

  private static void bodiesAbove() {
    BreadSpans x = withSpans(0, 0, 1, 0, 0, 1, 17, 0, 1);
    says("Rye: 20 crusts: super.crusts(x) - 4.");
    bodyIs(x, 2, 0, 5, 3, 20, 10);
    says("21 parts: super.parts(x) + steams(1).");
    bodyIs(x, 2, 3, 10, 2 - 2, 21, 13, 11, 20, 10);
    says("Brioche: 30 steams: 0 - super.steams(x).");
    x.become(2, 27);
    bodyIs(x, 2, 1, 5, -14, 30, 11, 10);
    says("Cart: 40 crumbles: super.crumbles(x / 2).");
    x.become(2, 37);
    bodyIs(x, 2, 2, 5, 1, 40, 12, 11, 10);
    bodyIs(x, 2, 2, -5, -7, 40, 12, 11, 10);
    says("Barley: 50 crusts: super.crusts(x) * 3.");
    x.become(2, 47);
    bodyIs(x, 2, 0, 5, 9, 50, 20, 10);
    says("51 crumbles: super.crumbles(x) ^ k.");
    bodyIs(x, 2, 2, 5, 11 ^ 2, 51, 12, 11, 50, 20, 10);
    bodyIs(x, 2, 2, 1, -13 ^ 2, 51, 12, 11, 50, 20, 10);
    says("Toast: 60 steams: super.steams(x + 1).");
    x.become(2, 57);
    bodyIs(x, 2, 1, 5, -16, 60, 30, 11, 10);
    says("Piety: 70 crusts: 9.");
    x.become(2, 67);
    bodyIs(x, 2, 0, 5, 9, 70);
    says("71 steams: super.steams(x) + m.");
    bodyIs(x, 2, 1, 5, 25, 71, 11, 70);
  }

  private static void whichBody() {
    BreadSpans x = withSpans(0, 0, 1, 0, 0, 1, 0, 0, 1);
    says("crusts(..) is the BODY of its KIND, or of the next KIND above that has one;");
    x.become(2, 57);
    bodyIs(x, 2, 0, 5, 7, 10);
    bodyIs(x, 2, 2, 5, -23, 12, 60, 30, 11, 10);
    bodyIs(x, 2, 3, 5, 1, 13);
    x.become(2, 47);
    bodyIs(x, 2, 1, 5, 18, 11, 50, 20, 10);
    bodyIs(x, 2, 3, 10, 2 - 6, 21, 13, 11, 50, 20, 10);
    x.become(2, 37);
    bodyIs(x, 2, 1, 5, 14, 11, 10);
    x.become(2, 67);
    bodyIs(x, 2, 2, 5, 18, 12, 71, 11, 70);
    says("super.crusts(..) that from the KIND above the BODY's on.");
    x.become(2, 47);
    bodyIs(x, 2, 0, 0, -6, 50, 20, 10);
    x.become(2, 57);
    bodyIs(x, 2, 1, 0, -6, 60, 30, 11, 10);
  }

  /** No voice() begins more than six BODIES, so the thirtieth can't be seen. */
  private static void theTrace() {
    says("THE TRACE: the numbers of BODIES of the latest voice(), as they began (what stands left is"
        + " worked out first), the first 30.");
    BreadSpans x = withSpans(0, 0, 1, 47, 0, 1);
    due("none", x.count(8), 0);
    due("none", x.body(0), NONE);
    bodyIs(x, 1, 3, 6, 1 - 12, 21, 13, 11, 50, 20, 10);
    bodyIs(x, 1, 2, 6, (9 * 2 - 7) ^ 1, 51, 12, 11, 50, 20, 10);
    bodyIs(x, 0, 0, 6, 6, 10);
    due("one PARTED", x.voice(0, 3, 6), PARTED);
    due("the latest", x.body(0), 13);
    due("the latest", x.body(1), NONE);
    due("BEYOND", x.voice(2, 0, 6), BEYOND);
    due("it stays", x.body(0), 13);
  }

  private static void sheets() {
    says("SHEETS 0 .. 3 are rows of 8, 16, 32 bits, at most 24 numbers, or missing (as at first).");
    BreadSpans x = new BreadSpans();
    for (int sheet = 0; sheet < 4; sheet++) {
      due("missing", x.judge(sheet), NONE);
      due("25", x.sheet(sheet, 8, 25), BEYOND);
      due("missing still", x.judge(sheet), NONE);
      due("24", x.sheet(sheet, 8, 24), 1);
      due("the first", x.put(sheet, 0, 1), 1);
      due("the last", x.put(sheet, 23, 1), 1);
      due("behind the last", x.put(sheet, 24, 1), BEYOND);
    }
    due("no SHEET ahead", x.judge(-1), BEYOND);
    due("no SHEET behind", x.judge(4), BEYOND);
    for (int bits = -1; bits <= 65; bits++) {
      boolean is = bits == 0 || bits == 8 || bits == 16 || bits == 32;
      due(bits + " bits", x.sheet(0, bits, 1), is ? 1 : BEYOND);
    }
  }
}
