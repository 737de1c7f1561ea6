/**
 * For each promise of the document ordinary inputs, the edges that it names, and wrong inputs. The
 * answers that are due are worked out by hand from the document.
 */
public final class PromisesTest extends Dues {
  public static void main(String[] args) {
    newObject();
    span();
    spanIs();
    become();
    as();
    soak();
    bakes();
    eat();
    store();
    cross();
    feed();
    text();
    textOrder();
    textFaults();
    textOpen();
    untell();
    law();
    days();
    loose();
    looseStep();
    looseAtTheEnd();
    seed();
    joined();
    load();
    baking();
    bakingTies();
    eating();
    lasts();
    then();
    odds();
    fits();
    voice();
    voiceParted();
    body();
    sheet();
    put();
    move();
    soaks();
    judge();
    image();
    restore();
    tell();
    check();
    count();
    told();
    errorsChangeNothing();
    end();
  }

  // ---- promise 1

  private static void newObject() {
    BreadSpans x = new BreadSpans();
    int[] counts = {0, 0, 0, 200, 0, 0, 0, 0, 0, 1};
    for (int what = 0; what < counts.length; what++) {
      due("1: count(" + what + ")", x.count(what), counts[what]);
    }
    due("1: spanIs", x.spanIs(0, 0), BEYOND);
    due("1: untell(0)", x.untell(0), 0);
    due("1: untell(1)", x.untell(1), 0);
    due("1: restore", x.restore(), NONE);
    due("1: check", x.check(), 0);
    for (int sheet = 0; sheet < 4; sheet++) {
      due("1: put", x.put(sheet, 0, 0), NONE);
    }
    due("1: joined", x.joined(7, 0), 128);
    due("1: told(2)", x.told(2), 5);
    due("1: told(3)", x.told(3), 0);
  }

  // ---- promise 2

  private static void span() {
    BreadSpans x = new BreadSpans();
    due("2: km below", x.span(-1, 0, 1), BEYOND);
    due("2: km above", x.span(70, 0, 1), BEYOND);
    due("2: one below", x.span(0, -1, 1), BEYOND);
    due("2: one above", x.span(0, 8, 1), BEYOND);
    due("2: other below", x.span(0, 1, -1), BEYOND);
    due("2: other above", x.span(0, 1, 8), BEYOND);
    due("2: one place twice", x.span(0, 3, 3), BEYOND);
    due("2: none yet", x.count(0), 0);
    for (int i = 0; i < 9; i++) {
      due("2: span " + i, x.span(69 - i, 7, 0), i);
    }
    due("2: FULL", x.span(0, 0, 1), FULL);
    due("2: BEYOND ahead of FULL", x.span(0, 1, 1), BEYOND);
    due("2: BEYOND ahead of FULL, km", x.span(70, 0, 1), BEYOND);
    due("2: nine", x.count(0), 9);
    due("2: told FULL", x.told(4), 1);
    BreadSpans y = withSpans(23, 4, 5, 0, 5, 4);
    int[] is = {2, 3, 4, 5, 0, 0, 0, 15, 16};
    for (int what = 0; what < is.length; what++) {
      due("2: spanIs(0, " + what + ")", y.spanIs(0, what), is[what]);
    }
    due("2: both ways, one", y.spanIs(1, 2), 5);
    due("2: both ways, other", y.spanIs(1, 3), 4);
  }

  // ---- promise 3

  private static void spanIs() {
    BreadSpans x = withSpans(5, 0, 1, 13, 1, 2, 24, 2, 3, 39, 3, 4, 45, 4, 5, 57, 5, 6, 61, 6, 7);
    for (int span = 0; span < 7; span++) {
      due("3: kind", x.spanIs(span, 0), span);
    }
    bears("3: at first", x, 25, 33, 16, 8, 35, 19, 21);
    takes("3: at first", x, 10, 11, 18, 14, 9, 24, 0);
    x.days(1);
    bears("3: a day", x, 23, 31, 14, 10, 33, 17, 20);
    takes("3: a day", x, 10, 11, 18, 14, 9, 25, 0);
    x.soak(0, 2);
    x.soak(1, 2);
    x.soak(2, 2);
    x.soak(3, 2);
    x.soak(4, 2);
    x.soak(5, 2);
    x.soak(6, 2);
    bears("3: wet", x, 17, 25, 8, 10, 27, 15, 14);
    for (int span = 0; span < 7; span++) {
      x.soak(span, 9);
    }
    bears("3: wettest", x, 5, 13, 0, 10, 15, 18, 2);
    x.days(1);
    takes("3: two days", x, 10, 11, 18, 14, 9, 26, 0);
    x.days(1);
    takes("3: three days", x, 10, 11, 18, 14, 9, 24, 0);
    x.days(7);
    bears("3: ten days", x, 5, 13, 0, 28, 15, 0, 4);
    x.days(1);
    bears("3: eleven days", x, 5, 13, 0, 30, 65, 0, 5);
    x.days(5);
    bears("3: sixteen days", x, 5, 13, 0, 40, 65, 0, 3);
    x.days(1);
    bears("3: seventeen days", x, 5, 13, 0, 40, 65, 0, 4);
    for (int i = 0; i < 7; i++) {
      x.eat(i);
    }
    bears("3: gone", x, -1, -1, -1, -1, -1, -1, -1);
    takes("3: gone", x, 10, 11, 18, 14, 9, 26, 0);
    due("3: is gone", x.spanIs(0, 6), 1);
    due("3: AGE", x.spanIs(0, 4), 17);
    ages(x, 81);
    due("3: AGE", x.spanIs(0, 4), 98);
    x.days(60);
    due("3: AGE at most", x.spanIs(0, 4), 99);
    due("3: span below", x.spanIs(-1, 0), BEYOND);
    due("3: span above", x.spanIs(7, 0), BEYOND);
    due("3: what below", x.spanIs(0, -1), BEYOND);
    due("3: what above", x.spanIs(0, 9), BEYOND);
  }

  private static void bears(String when, BreadSpans x, int... want) {
    for (int i = 0; i < want.length; i++) {
      due(when + ": BEARS of " + i, x.spanIs(i, 7), want[i]);
    }
  }

  private static void takes(String when, BreadSpans x, int... want) {
    for (int i = 0; i < want.length; i++) {
      due(when + ": TAKES of " + i, x.spanIs(i, 8), want[i]);
    }
  }

  // ---- promise 4

  private static void become() {
    BreadSpans x = withSpans(5, 0, 1);
    x.soak(0, 3);
    x.days(4);
    x.soak(0, 3);
    x.eat(0);
    due("4: become", x.become(0, 62), 0);
    due("4: become", x.become(0, 29), 6);
    int[] is = {2, 9, 0, 1, 4, 3, 1, -1, 28};
    for (int what = 0; what < is.length; what++) {
      due("4: spanIs(0, " + what + ")", x.spanIs(0, what), is[what]);
    }
    due("4: span below", x.become(-1, 0), BEYOND);
    due("4: span above", x.become(1, 0), BEYOND);
    due("4: km below", x.become(0, -1), BEYOND);
    due("4: km above", x.become(0, 70), BEYOND);
    due("4: stays", x.spanIs(0, 0), 2);
  }

  // ---- promise 5

  private static void as() {
    boolean[][] under = {
      {true, false, false, false, false, false, false},
      {true, true, false, false, false, false, false},
      {true, false, true, false, false, false, false},
      {true, false, false, true, false, false, false},
      {true, true, false, false, true, false, false},
      {true, false, true, false, false, true, false},
      {true, false, false, false, false, false, true}
    };
    BreadSpans x = withSpans(1, 0, 1, 12, 0, 1, 23, 0, 1, 34, 0, 1, 45, 0, 1, 56, 0, 1, 67, 0, 1);
    for (int span = 0; span < 7; span++) {
      for (int kind = 0; kind < 7; kind++) {
        due("5: as(" + span + ", " + kind + ")", x.as(span, kind), under[span][kind] ? span + 1 : KIND);
      }
    }
    due("5: span below", x.as(-1, 0), BEYOND);
    due("5: span above", x.as(7, 0), BEYOND);
    due("5: kind below", x.as(0, -1), BEYOND);
    due("5: kind above", x.as(0, 7), BEYOND);
    due("5: told KIND", x.told(5), 49 - 7 - 6 - 2);
  }

  // ---- promise 6

  private static void soak() {
    BreadSpans x = withSpans(5, 0, 1);
    due("6: soak", x.soak(0, 9), 0);
    due("6: soak", x.soak(0, 0), 9);
    due("6: soak", x.soak(0, 4), 0);
    x.eat(0);
    due("6: gone, too", x.soak(0, 5), 4);
    due("6: WET", x.spanIs(0, 5), 5);
    due("6: wet below", x.soak(0, -1), BEYOND);
    due("6: wet above", x.soak(0, 10), BEYOND);
    due("6: span below", x.soak(-1, 0), BEYOND);
    due("6: span above", x.soak(1, 0), BEYOND);
    due("6: WET stays", x.spanIs(0, 5), 5);
  }

  // ---- promise 7

  private static void bakes() {
    BreadSpans x = withSpans(5, 0, 1, 52, 0, 1, 60, 0, 1);
    x.days(2);
    x.soak(0, 7);
    x.eat(0);
    x.store(0, 10);
    due("7: too little", x.bakes(1), STATE);
    due("7: AGE stays", x.spanIs(1, 4), 2);
    due("7: just enough", x.bakes(0), 10);
    due("7: FLOUR", x.count(3), 0);
    due("7: AGE", x.spanIs(0, 4), 0);
    due("7: WET", x.spanIs(0, 5), 0);
    due("7: not GONE", x.spanIs(0, 6), 0);
    due("7: nothing is enough", x.bakes(2), 0);
    x.store(0, 16);
    due("7: TAKES of now", x.bakes(1), 16);
    due("7: FLOUR", x.count(3), 0);
    due("7: span below", x.bakes(-1), BEYOND);
    due("7: span above", x.bakes(3), BEYOND);
  }

  // ---- promise 8

  private static void eat() {
    BreadSpans x = withSpans(5, 0, 1);
    due("8: eat", x.eat(0), 0);
    due("8: eat", x.eat(0), 1);
    due("8: GONE", x.spanIs(0, 6), 1);
    due("8: span below", x.eat(-1), BEYOND);
    due("8: span above", x.eat(1), BEYOND);
  }

  // ---- promise 9

  private static void store() {
    BreadSpans x = new BreadSpans();
    due("9: FLOUR", x.store(0, 9999), 200);
    due("9: FLOUR", x.store(0, 0), 9999);
    due("9: RAIN", x.store(1, 9), 0);
    due("9: RAIN", x.store(1, 0), 9);
    due("9: RAIN", x.store(1, 4), 0);
    due("9: FLOUR below", x.store(0, -1), BEYOND);
    due("9: FLOUR above", x.store(0, 10000), BEYOND);
    due("9: RAIN below", x.store(1, -1), BEYOND);
    due("9: RAIN above", x.store(1, 10), BEYOND);
    due("9: what below", x.store(-1, 0), BEYOND);
    due("9: what above", x.store(2, 0), BEYOND);
    due("9: FLOUR", x.count(3), 0);
    due("9: RAIN", x.count(2), 4);
  }

  // ---- promise 10

  private static void cross() {
    BreadSpans x = withSpans(5, 0, 1, 0, 0, 1);
    due("10: what it bears", x.cross(0, 25), 3);
    due("10: nothing", x.cross(0, 0), 1);
    due("10: TOLL", x.count(5), 4);
    due("10: not LOST", x.count(4), 0);
    due("10: load below", x.cross(0, -1), BEYOND);
    due("10: load above", x.cross(0, 100), BEYOND);
    due("10: span below", x.cross(-1, 0), BEYOND);
    due("10: span above", x.cross(2, 0), BEYOND);
    due("10: one more", x.cross(0, 26), -1);
    due("10: GONE", x.spanIs(0, 6), 1);
    due("10: LOST", x.count(4), 26);
    due("10: TOLL", x.count(5), 4);
    due("10: is gone", x.cross(0, 0), STATE);
    due("10: BEYOND ahead of STATE", x.cross(0, 100), BEYOND);
    due("10: the most", x.cross(1, 99), -1);
    due("10: LOST", x.count(4), 125);
    BreadSpans y = withSpans(42, 0, 1);
    written(y, 1, "l*1000+b*10+m");
    due("10: held", y.cross(0, 1), 99);
    written(y, 1, "(l=7)*50+(b=32)*20+(m=2)*3");
    due("10: NAMES", y.cross(0, 7), 73);
    written(y, 1, "0-l");
    due("10: held", y.cross(0, 1), 0);
    due("10: TOLL", y.count(5), 172);
    heldToll();
    muchLost();
  }

  private static void heldToll() {
    BreadSpans x = withSpans(42, 0, 1);
    written(x, 1, "99");
    // Stone bears all that the draws bring: 30 tolls of 99 in a call.
    x.days(11);
    for (int i = 0; i < 40; i++) {
      x.loose(30);
    }
    due("10: TOLL, 1200 crossings", x.count(5), 99999);
    due("10: held TOLL", x.cross(0, 1), 99);
    due("10: held TOLL", x.count(5), 99999);
  }

  private static void muchLost() {
    BreadSpans x = withSpans(0, 0, 1);
    for (int i = 1; i <= 100; i++) {
      x.store(0, 9999);
      x.bakes(0);
      due("10: breaks", x.cross(0, 99), -1);
      due("10: LOST", x.count(4), 99 * i);
    }
  }

  // ---- promise 11

  private static void feed() {
    BreadSpans x = new BreadSpans();
    due("11: n below", x.feed(0L, 0), BEYOND);
    due("11: n above", x.feed(0L, 9), BEYOND);
    due("11: one", x.feed(0x3736353433323177L, 1), 1);
    due("11: text", x.text(0), 1);
    due("11: lowest byte", x.law(0, 1, 5, 2), 5);
    due("11: eight", x.feed(0x0A0000292D722872L, 4), 4);
    due("11: lowest first", x.text(0), -11);
    for (int i = 1; i <= 7; i++) {
      due("11: feed", x.feed(-1L, 8), 8 * i);
    }
    due("11: too many", x.feed(0L, 5), FULL);
    due("11: BEYOND ahead of FULL", x.feed(0L, 9), BEYOND);
    due("11: just so", x.feed(0L, 4), 60);
    due("11: full", x.feed(0L, 1), FULL);
    due("11: bytes", x.count(6), 60);
    due("11: byte 255", x.text(0), -10);
    due("11: no bytes", x.count(6), 0);
    tape(x, "1*(r+w)");
    due("11: more", x.feed(0x2D2DL, 2), 9);
    due("11: all of it", x.text(0), -10 - 8);
  }

  // ---- promise 12

  private static void text() {
    BreadSpans x = withSpans(0, 0, 1);
    written(x, 0, "2");
    due("12: law", x.law(0, 0, 0, 0), 2);
    written(x, 0, "3");
    due("12: in place of one ahead", x.law(0, 0, 0, 0), 3);
    tape(x, "4+");
    due("12: use below", x.text(-1), BEYOND);
    due("12: use above", x.text(2), BEYOND);
    due("12: tape stays", x.count(6), 2);
    due("12: too early", x.text(0), -12);
    due("12: tape is empty", x.count(6), 0);
    due("12: one ahead stays", x.law(0, 0, 0, 0), 3);
    due("12: nothing", x.text(0), -10);
    due("12: no ERROR told", x.told(1), 2);
    due("12: other use", x.law(1, 10, 0, 0), 2);
    written(x, 1, "l+b*m");
    due("12: names of CRUMBS", x.law(1, 2, 3, 4), 14);
    due("12: SOAKS stays", x.law(0, 0, 0, 0), 3);
    written(x, 0, "r*100+w*10+k");
    due("12: names of SOAKS", x.law(0, 0, 0, 7), 7);
    due("12: names of SOAKS", x.law(0, -1, 9, 2), -8);
    x.become(0, 43);
    written(x, 0, "k");
    x.days(1);
    due("12: a day by the text", x.spanIs(0, 5), 4);
    due("12: sixty", x.text(1), -10);
    written(x, 1, "1+1+1+1+1+1+1+1+1+1+1+1+1+1+1+1+1+1+1+1+1+1+1+1+1+1+1+1+1+11");
    due("12: sixty bytes", x.law(1, 0, 0, 0), 40);
  }

  private static void textOrder() {
    gives("2+3*2", 0, 0, 0, 8);
    gives("9-4-3", 0, 0, 0, 2);
    gives("100/10/5", 0, 0, 0, 2);
    gives("100/(10/5)-45", 0, 0, 0, 5);
    gives("7%4*2", 0, 0, 0, 6);
    gives("7-2%4", 0, 0, 0, 5);
    gives("1<2+3", 0, 0, 0, 1);
    gives("3>2&2>3", 0, 0, 0, 0);
    gives("0&0|5", 0, 0, 0, 1);
    gives("5|0&0", 0, 0, 0, 1);
    gives("4&2", 0, 0, 0, 1);
    gives("1&1", 0, 0, 0, 1);
    gives("0&3", 0, 0, 0, 0);
    gives("3&0", 0, 0, 0, 0);
    gives("0|3", 0, 0, 0, 1);
    gives("0|0", 0, 0, 0, 0);
    gives("2=2", 0, 0, 0, 1);
    gives("2=3", 0, 0, 0, 0);
    gives("3<3", 0, 0, 0, 0);
    gives("3>3", 0, 0, 0, 0);
    gives("!3", 0, 0, 0, 0);
    gives("!0", 0, 0, 0, 1);
    gives("!!7", 0, 0, 0, 1);
    gives("!r+3", 0, 0, 0, 4);
    gives("!r*3", 1, 0, 0, 0);
    gives("!(r-1)*3", 1, 0, 0, 3);
    gives("(1<2)<3", 0, 0, 0, 1);
    gives("0-7/2", 0, 0, 0, -3);
    gives("(0-7)/2", 0, 0, 0, -3);
    gives("(0-7)%4", 0, 0, 0, -3);
    gives("7%(0-4)", 0, 0, 0, 3);
    gives("7/0", 0, 0, 0, 0);
    gives("7%0", 0, 0, 0, 0);
    gives("7/0+5%r", 0, 0, 0, 0);
    gives("1|7/0", 0, 0, 0, 1);
    gives("r/w=r", Integer.MIN_VALUE, -1, 0, 1);
    gives("r%w=0", Integer.MIN_VALUE, -1, 0, 1);
    gives("r+1<r", Integer.MAX_VALUE, 0, 0, 1);
    gives("r-1>r", Integer.MIN_VALUE, 0, 0, 1);
    gives("r*4=0-4", Integer.MAX_VALUE, 0, 0, 1);
    gives("9999-9992", 0, 0, 0, 7);
    gives("0008", 0, 0, 0, 8);
    gives("r", Integer.MAX_VALUE, 0, 0, 9);
    gives("r", Integer.MIN_VALUE, 0, 0, -9);
  }

  private static void textFaults() {
    faulty(0, "", 0);
    faulty(0, " 1", 0);
    faulty(0, "1 ", 1);
    faulty(0, "l", 0);
    faulty(0, "b", 0);
    faulty(0, "m", 0);
    faulty(1, "r", 0);
    faulty(1, "w", 0);
    faulty(1, "k", 0);
    faulty(0, "R", 0);
    faulty(0, "12345", 4);
    faulty(0, "1r", 1);
    faulty(0, "r1", 1);
    faulty(0, "rr", 1);
    faulty(0, "+1", 0);
    faulty(0, "-1", 0);
    faulty(0, "1+-1", 2);
    faulty(0, "1<2<3", 3);
    faulty(0, "1<2=3", 3);
    faulty(0, "1=2>3", 3);
    faulty(0, "1<=3", 2);
    faulty(0, "1<2&3<4|5<6<7", 11);
    faulty(0, "(1", 2);
    faulty(0, "()", 1);
    faulty(0, "1)", 1);
    faulty(0, "(1))", 3);
    faulty(0, "(1(", 2);
    faulty(0, "1!", 1);
    faulty(0, "!", 1);
    faulty(0, "!)", 1);
    faulty(0, "1|", 2);
    faulty(0, "1&", 2);
    faulty(0, "1<", 2);
    faulty(0, "1=", 2);
    faulty(0, "1>", 2);
    faulty(0, "1+", 2);
    faulty(0, "1-", 2);
    faulty(0, "1*", 2);
    faulty(0, "1/", 2);
    faulty(0, "1%", 2);
    faulty(0, "1||1", 2);
    faulty(0, "1&&1", 2);
    faulty(0, "r+\u00e9", 2);
    faulty(0, "r\u0000", 1);
    faulty(0, "(1<2)<(3)<4", 9);
  }

  private static void textOpen() {
    gives("!!!!!7", 0, 0, 0, 0);
    faulty(0, "!!!!!!7", 5);
    gives("(((((7)))))", 0, 0, 0, 7);
    faulty(0, "((((((7))))))", 5);
    gives("!(!(!7))", 0, 0, 0, 0);
    faulty(0, "!(!(!(7)))", 5);
    gives("!(!(7+!0))", 0, 0, 0, 1);
    faulty(0, "!(!(7+!!0))", 7);
    gives("!1+!1+!1+!1+!1+!0+(1)+(2)+(3)", 0, 0, 0, 7);
    gives("!!!!!1+!!!!!1", 0, 0, 0, 0);
    gives("((((!1))))+((((!0))))", 0, 0, 0, 1);
    faulty(0, "((((!1+!!1))))", 8);
  }

  // ---- promise 13

  private static void untell() {
    BreadSpans x = new BreadSpans();
    written(x, 0, "5");
    written(x, 1, "6");
    due("13: untell(0)", x.untell(0), 1);
    due("13: untell(0)", x.untell(0), 0);
    due("13: SOAKS as without", x.law(0, 3, 0, 0), 1);
    due("13: CRUMBS stays", x.law(1, 30, 0, 0), 6);
    due("13: untell(1)", x.untell(1), 1);
    due("13: CRUMBS as without", x.law(1, 30, 0, 0), 4);
    due("13: below", x.untell(-1), BEYOND);
    due("13: above", x.untell(2), BEYOND);
  }

  // ---- promise 14

  private static void law() {
    BreadSpans x = new BreadSpans();
    due("14: rain", x.law(0, 1, 0, 0), 1);
    due("14: no rain", x.law(0, 0, 9, 9), -1);
    due("14: below", x.law(0, Integer.MIN_VALUE, 0, 0), -1);
    due("14: 0", x.law(1, 0, 9, 9), 1);
    due("14: 9", x.law(1, 9, 0, 0), 1);
    due("14: 10", x.law(1, 10, 0, 0), 2);
    due("14: 979", x.law(1, 979, 0, 0), 98);
    due("14: 980", x.law(1, 980, 0, 0), 99);
    due("14: 990", x.law(1, 990, 0, 0), 99);
    due("14: most", x.law(1, Integer.MAX_VALUE, 0, 0), 99);
    due("14: -9", x.law(1, -9, 0, 0), 1);
    due("14: -10", x.law(1, -10, 0, 0), 0);
    due("14: least", x.law(1, Integer.MIN_VALUE, 0, 0), 0);
    written(x, 0, "r*100+w*10+k-320");
    due("14: in order", x.law(0, 3, 2, 4), 4);
    written(x, 1, "l*100+b*10+m-300");
    due("14: in order", x.law(1, 3, 2, 4), 24);
    due("14: held", x.law(1, 2, 2, 4), 0);
    due("14: held", x.law(1, 3, 10, 0), 99);
    due("14: use below", x.law(-1, 0, 0, 0), BEYOND);
    due("14: use above", x.law(2, 0, 0, 0), BEYOND);
  }

  // ---- promise 15

  private static void days() {
    BreadSpans x = withSpans(0, 0, 1, 30, 0, 1, 0, 0, 1);
    x.store(1, 1);
    x.eat(2);
    due("15: days(1)", x.days(1), 1);
    due("15: WET", x.spanIs(0, 5), 1);
    due("15: WET of the GONE", x.spanIs(2, 5), 1);
    due("15: AGE of the GONE", x.spanIs(2, 4), 1);
    due("15: days(60)", x.days(60), 61);
    due("15: WET at most", x.spanIs(0, 5), 9);
    x.store(1, 0);
    due("15: days(4)", x.days(4), 65);
    due("15: it dries", x.spanIs(1, 5), 5);
    due("15: days(6)", x.days(6), 71);
    due("15: WET at least", x.spanIs(1, 5), 0);
    due("15: AGE", x.spanIs(1, 4), 71);
    due("15: n below", x.days(0), BEYOND);
    due("15: n above", x.days(61), BEYOND);
    for (int i = 0; i < 165; i++) {
      x.days(60);
    }
    due("15: DAY", x.count(1), 71 + 9900);
    due("15: STATE", x.days(29), STATE);
    due("15: BEYOND ahead of STATE", x.days(61), BEYOND);
    due("15: DAY stays", x.count(1), 9971);
    due("15: the last", x.days(28), 9999);
    due("15: no more", x.days(1), STATE);
    due("15: no more by draws", x.loose(1), STATE);
    due("15: BEYOND ahead of STATE by draws", x.loose(31), BEYOND);
    x.become(0, 60);
    due("15: DAY by 7", x.spanIs(0, 7), 3);
    due("15: beyond in thought", x.then(0, 1), 4);
    x.become(0, 3);
    written(x, 0, "r+w+k+1");
    x.soak(0, 2);
    x.image();
    x.restore();
    due("15: by the text in thought", x.then(0, 60), 3);
    due("15: by the text", x.spanIs(0, 5), 2);
  }

  // ---- promise 16

  private static void loose() {
    BreadSpans x = new BreadSpans();
    due("16: n below", x.loose(0), BEYOND);
    due("16: n above", x.loose(31), BEYOND);
    due("16: no draws yet", x.count(9), 1);
    due("16: no SPANS", x.loose(30), 0);
    due("16: DAY", x.count(1), 30);
    drawFrom(1);
    int rain = 0;
    for (int i = 0; i < 30; i++) {
      rain = Math.max(0, draw() % 16 - 6);
    }
    due("16: one draw a DAY", x.count(9), drawn());
    due("16: RAIN", x.count(2), rain);
    BreadSpans y = withSpans(0, 0, 1);
    y.eat(0);
    due("16: none breaks", y.loose(1), 0);
    drawFrom(1);
    draw();
    draw();
    draw();
    due("16: three draws a DAY", y.count(9), drawn());
    due("16: AGE", y.spanIs(0, 4), 1);
    due("16: TOLL", y.count(5), 0);
    due("16: LOST", y.count(4), 0);
  }

  private static void looseAtTheEnd() {
    BreadSpans x = withSpans(40, 0, 1);
    ages(x, 9970);
    written(x, 1, "0");
    due("16: STATE", x.loose(30), STATE);
    due("16: DAY stays", x.count(1), 9970);
    due("16: z stays", x.count(9), 1);
    due("16: no crumbs are no break", x.loose(29), 0);
    due("16: DAY", x.count(1), 9999);
    due("16: TOLL", x.count(5), 0);
  }

  /** Many a DAY, each worked out from the draws. */
  private static void looseStep() {
    BreadSpans x = withSpans(9, 0, 1, 15, 1, 2, 33, 2, 3);
    int seen = 0;
    for (int i = 0; i < 60; i++) {
      x.seed(i * 7919);
      drawFrom(i * 7919);
      int rain = Math.max(0, draw() % 16 - 6);
      int span = draw() % 3;
      int load = draw() % 30;
      int bears = x.spanIs(span, 7);
      int wet = x.spanIs(span, 5);
      int toll = x.count(5);
      int lost = x.count(4);
      boolean breaks = bears >= 0 && bears < load;
      boolean pays = bears >= load;
      seen += breaks ? 1 : 0;
      due("16: broke", x.loose(1), breaks ? 1 : 0);
      due("16: RAIN", x.count(2), rain);
      due("16: TOLL", x.count(5), toll + (pays ? load / 10 + 1 : 0));
      due("16: LOST", x.count(4), lost + (breaks ? load : 0));
      due("16: WET", x.spanIs(span, 5), Math.max(0, Math.min(9, wet + (rain > 0 ? 1 : -1))));
    }
    due("16: some broke", seen > 0 ? 1 : 0, 1);
  }

  // ---- promise 17

  private static void seed() {
    BreadSpans x = new BreadSpans();
    due("17: seed", x.seed(Integer.MIN_VALUE), 1);
    due("17: seed", x.seed(BEYOND), Integer.MIN_VALUE);
    due("17: seed", x.seed(5), BEYOND);
    due("17: no ERROR told", x.told(1), 0);
    due("17: z", x.count(9), 5);
  }

  // ---- promise 18

  private static void joined() {
    BreadSpans x = withSpans(0, 0, 1, 5, 2, 1, 9, 3, 2, 0, 5, 6);
    due("18: all", x.joined(0, 20), 15);
    due("18: more", x.joined(0, 21), 1);
    due("18: from the other end", x.joined(3, 25), 14);
    due("18: from the other end", x.joined(3, 26), 12);
    due("18: apart", x.joined(6, 0), 96);
    due("18: alone", x.joined(7, 0), 128);
    x.eat(1);
    due("18: GONE bears not even 0", x.joined(0, 0), 3);
    due("18: place below", x.joined(-1, 0), BEYOND);
    due("18: place above", x.joined(8, 0), BEYOND);
    due("18: load below", x.joined(0, -1), BEYOND);
    due("18: load above", x.joined(0, 100), BEYOND);
    due("18: the most", x.joined(0, 99), 1);
    BreadSpans y = withSpans(0, 7, 6, 0, 6, 5, 0, 5, 4, 0, 4, 3, 0, 3, 2, 0, 2, 1, 0, 1, 0);
    due("18: a long way", y.joined(0, 20), 255);
    due("18: a long way back", y.joined(7, 20), 255);
  }

  // ---- promise 19

  private static void load() {
    BreadSpans x = withSpans(2, 0, 1, 7, 1, 2, 39, 0, 2, 49, 3, 4);
    due("19: the narrowest of the best way", x.load(0, 2), 22);
    due("19: back", x.load(2, 0), 22);
    due("19: none", x.load(0, 3), NONE);
    x.days(11);
    due("19: stone", x.load(3, 4), 69);
    due("19: a cart", x.load(0, 2), 30);
    x.eat(3);
    due("19: GONE", x.load(3, 4), NONE);
    x.become(0, 0);
    x.become(1, 20);
    x.eat(2);
    due("19: for 0", x.load(0, 2), 0);
    due("19: one below", x.load(-1, 0), BEYOND);
    due("19: one above", x.load(8, 0), BEYOND);
    due("19: other below", x.load(0, -1), BEYOND);
    due("19: other above", x.load(0, 8), BEYOND);
    due("19: one place twice", x.load(2, 2), BEYOND);
  }

  // ---- promise 20

  private static void baking() {
    BreadSpans x = withSpans(0, 0, 1, 12, 1, 2, 5, 0, 2, 40, 3, 4);
    due("20: none needed", x.baking(0, 2, 20, 0), 0);
    due("20: none needed", x.baking(0, 2, 20, 1), 0);
    x.days(10);
    due("20: all dry", x.load(0, 2), 5);
    due("20: the cheapest", x.baking(0, 2, 20, 0), 10);
    due("20: the cheapest", x.baking(0, 2, 20, 1), 4);
    due("20: a way of two", x.baking(0, 1, 20, 1), 1);
    due("20: a way of two", x.baking(0, 1, 20, 0), 5);
    x.eat(0);
    due("20: GONE can be baked", x.baking(0, 1, 20, 1), 1);
    due("20: the FLOUR in store is not asked", x.store(0, 0), 200);
    due("20: the FLOUR in store is not asked", x.baking(0, 2, 20, 0), 10);
    due("20: two", x.baking(1, 2, 12, 0), 0);
    due("20: more than it bears", x.baking(0, 2, 26, 0), NONE);
    due("20: no way", x.baking(0, 3, 0, 0), NONE);
    x.days(1);
    due("20: stone", x.baking(3, 4, 60, 0), 0);
    due("20: only thought", x.spanIs(0, 6), 1);
    due("20: one below", x.baking(-1, 0, 0, 0), BEYOND);
    due("20: one above", x.baking(8, 0, 0, 0), BEYOND);
    due("20: other below", x.baking(0, -1, 0, 0), BEYOND);
    due("20: other above", x.baking(0, 8, 0, 0), BEYOND);
    due("20: one place twice", x.baking(1, 1, 0, 0), BEYOND);
    due("20: load below", x.baking(0, 1, -1, 0), BEYOND);
    due("20: load above", x.baking(0, 1, 100, 0), BEYOND);
    due("20: what below", x.baking(0, 1, 0, -1), BEYOND);
    due("20: what above", x.baking(0, 1, 0, 2), BEYOND);
    due("20: BEYOND ahead of NONE", x.baking(0, 3, 0, 2), BEYOND);
  }

  private static void bakingTies() {
    BreadSpans x = withSpans(5, 0, 1, 5, 1, 0, 60, 1, 0, 61, 1, 0);
    x.days(7);
    due("20: PIETY takes nothing", x.baking(0, 1, 20, 0), 0);
    due("20: of several the least", x.baking(0, 1, 20, 1), 4);
    due("20: the other", x.baking(0, 1, 21, 1), 8);
    due("20: of several the least", x.baking(0, 1, 22, 1), 1);
    due("20: FLOUR", x.baking(0, 1, 22, 0), 10);
    BreadSpans y = withSpans(50, 0, 1, 21, 0, 1, 22, 1, 0);
    y.days(5);
    due("20: TAKES as now", y.baking(0, 1, 12, 0), 12);
    due("20: TAKES as now", y.baking(0, 1, 12, 1), 1);
    due("20: TAKES as now, twelve for thirteen", y.baking(0, 1, 13, 1), 2);
    y.become(1, 20);
    due("20: cheaper", y.baking(0, 1, 12, 1), 2);
    BreadSpans z = withSpans(40, 0, 1, 0, 0, 1);
    z.days(12);
    z.eat(0);
    due("20: stone is no more when baked", z.baking(0, 1, 31, 0), NONE);
    due("20: baked as rye", z.baking(0, 1, 30, 1), 1);
    BreadSpans w = withSpans(60, 0, 1);
    w.days(6);
    due("20: DAY as now", w.baking(0, 1, 26, 1), 1);
    due("20: DAY as now", w.baking(0, 1, 27, 1), NONE);
  }

  // ---- promise 21

  private static void eating() {
    BreadSpans x = withSpans(5, 0, 1, 5, 1, 2, 5, 0, 2, 0, 2, 3);
    due("21: two ways", x.eating(0, 2, 25, 0), 2);
    due("21: of several the least", x.eating(0, 2, 25, 1), 5);
    due("21: the last", x.eating(0, 3, 20, 0), 1);
    due("21: the last", x.eating(0, 3, 20, 1), 8);
    due("21: not joined", x.eating(0, 3, 21, 0), 0);
    due("21: not joined", x.eating(0, 3, 21, 1), 0);
    x.eat(2);
    due("21: GONE", x.eating(0, 2, 25, 0), 1);
    due("21: GONE", x.eating(0, 2, 25, 1), 1);
    BreadSpans y = new BreadSpans();
    for (int i = 0; i < 9; i++) {
      y.span(0, i % 2, 1 - i % 2);
    }
    due("21: all", y.eating(0, 1, 0, 0), 9);
    due("21: all", y.eating(0, 1, 0, 1), 511);
    due("21: only thought", y.joined(0, 0), 3);
    nineSpans(y);
    due("21: one below", x.eating(-1, 0, 0, 0), BEYOND);
    due("21: one above", x.eating(8, 0, 0, 0), BEYOND);
    due("21: other below", x.eating(0, -1, 0, 0), BEYOND);
    due("21: other above", x.eating(0, 8, 0, 0), BEYOND);
    due("21: one place twice", x.eating(1, 1, 0, 0), BEYOND);
    due("21: load below", x.eating(0, 1, -1, 0), BEYOND);
    due("21: load above", x.eating(0, 1, 100, 0), BEYOND);
    due("21: what below", x.eating(0, 1, 0, -1), BEYOND);
    due("21: what above", x.eating(0, 1, 0, 2), BEYOND);
  }

  /** As many as there may be, each a loaf between PLACES 0 and 1. */
  private static void nineSpans(BreadSpans y) {
    y.days(1);
    due("15: AGE of the last", y.spanIs(8, 4), 1);
    due("20: all as good", y.baking(0, 1, 20, 1), 1);
    y.become(8, 60);
    due("20: the last", y.baking(0, 1, 21, 1), 256);
    y.sheet(0, 8, 10);
    for (int i = 0; i < 9; i++) {
      y.put(0, i, i < 8 ? 18 : 19);
    }
    due("32: all nine", y.judge(0), 9);
    due("31: not to 9", y.soaks(0), 0);
    y.sheet(0, 8, 10);
    due("31: all nine", y.soaks(0), 9);
  }

  // ---- promise 22

  private static void lasts() {
    BreadSpans x = withSpans(5, 0, 1, 40, 2, 3, 30, 4, 5);
    due("22: dry", x.lasts(0, 1, 15), 6);
    due("22: now", x.lasts(0, 1, 26), 0);
    due("22: for 5 always", x.lasts(0, 1, 5), NONE);
    due("22: for 6", x.lasts(0, 1, 6), 10);
    due("22: apart", x.lasts(0, 2, 0), 0);
    due("22: stone comes too late", x.lasts(2, 3, 12), 10);
    due("22: stone", x.lasts(2, 3, 10), NONE);
    due("22: not yet", x.lasts(4, 5, 9), 0);
    x.store(1, 1);
    due("22: wet", x.lasts(0, 1, 15), 3);
    due("22: only thought", x.count(1), 0);
    due("22: only thought", x.spanIs(0, 4), 0);
    BreadSpans y = withSpans(50, 0, 1);
    written(y, 0, "w-w");
    y.soak(0, 9);
    due("22: by the text", y.lasts(0, 1, 18), NONE);
    y.untell(0);
    due("22: without the text", y.lasts(0, 1, 18), 1);
    BreadSpans z = withSpans(20, 0, 1);
    written(z, 0, "0");
    due("22: at the 6th", z.lasts(0, 1, 1), 6);
    lateEnd();
    sixtyDays();
    due("22: one below", x.lasts(-1, 0, 0), BEYOND);
    due("22: one above", x.lasts(8, 0, 0), BEYOND);
    due("22: other below", x.lasts(0, -1, 0), BEYOND);
    due("22: other above", x.lasts(0, 8, 0), BEYOND);
    due("22: one place twice", x.lasts(1, 1, 0), BEYOND);
    due("22: load below", x.lasts(0, 1, -1), BEYOND);
    due("22: load above", x.lasts(0, 1, 100), BEYOND);
  }

  /** PIETY of that AGE bears the rest of DAY by 7 alone: 4 on the 60th, 0 on the 63rd. */
  private static void lateEnd() {
    BreadSpans x = withSpans(60, 0, 1);
    x.days(60);
    due("22: by the DAY", x.lasts(0, 1, 2), 3);
    due("22: by the DAY, one", x.lasts(0, 1, 1), 3);
    BreadSpans y = withSpans(0, 0, 1);
    written(y, 0, "0-9");
    y.days(10);
    due("22: for 0 always", y.lasts(0, 1, 0), NONE);
  }

  /**
   * PIETY bears 0 each seventh DAY, a toast each tenth, when it is dry: both first behind 60, or 61.
   */
  private static void sixtyDays() {
    BreadSpans x = withSpans(60, 0, 1, 50, 0, 1);
    x.sheet(0, 8, 2);
    x.days(10);
    written(x, 0, "(w=0)*9-(w>0)");
    x.soak(1, 0);
    due("22: sixty", x.lasts(0, 1, 1), 60);
    due("25: sixty", x.fits(0), 60);
    x.days(6);
    x.soak(1, 1);
    due("22: sixty-one", x.lasts(0, 1, 1), NONE);
    due("25: sixty-one", x.fits(0), NONE);
    x.days(1);
    due("22: sixty again", x.lasts(0, 1, 1), 60);
  }

  // ---- promise 23

  private static void then() {
    BreadSpans x = withSpans(5, 0, 1, 42, 0, 1, 30, 0, 1, 60, 0, 1);
    x.store(1, 2);
    due("23: now", x.then(0, 0), 25);
    due("23: a day", x.then(0, 1), 20);
    due("23: two days", x.then(0, 2), 15);
    due("23: rye", x.then(1, 10), 12);
    due("23: stone", x.then(1, 11), 62);
    due("23: cart", x.then(2, 15), 38);
    due("23: cart", x.then(2, 16), 40);
    due("23: sixty", x.then(2, 60), 40);
    due("23: DAY", x.then(3, 6), 6);
    due("23: DAY", x.then(3, 7), 0);
    due("23: DAY", x.then(3, 60), 4);
    x.eat(0);
    due("23: GONE", x.then(0, 0), -1);
    due("23: GONE", x.then(0, 60), -1);
    due("23: only thought", x.count(1), 0);
    due("23: span below", x.then(-1, 0), BEYOND);
    due("23: span above", x.then(4, 0), BEYOND);
    due("23: n below", x.then(0, -1), BEYOND);
    due("23: n above", x.then(0, 61), BEYOND);
    due("23: ERRORS are told", x.told(1), 4);
  }

  // ---- promise 24

  private static void odds() {
    BreadSpans x = withSpans(5, 0, 1);
    x.soak(0, 1);
    odds(x, 23, 1, 10);
    odds(x, 17, 1, 1);
    odds(x, 18, 1, 10);
    odds(x, 24, 0, 1);
    written(x, 0, "r>w+4");
    odds(x, 20, 3, 5);
    x.soak(0, 0);
    odds(x, 21, 1, 2);
    written(x, 0, "r>1");
    odds(x, 23, 1, 5);
    written(x, 0, "r>6");
    odds(x, 23, 7, 10);
    x.store(1, 9);
    odds(x, 23, 7, 10);
    due("24: RAIN stays", x.count(2), 9);
    due("24: WET stays", x.spanIs(0, 5), 0);
    x.become(0, 60);
    x.days(5);
    written(x, 0, "0");
    x.soak(0, 0);
    odds(x, 14, 1, 1);
    odds(x, 15, 0, 1);
    due("24: apart", x.odds(2, 3, 0, 0), 0);
    due("24: apart", x.odds(2, 3, 0, 1), 1);
    due("24: one below", x.odds(-1, 0, 0, 0), BEYOND);
    due("24: one above", x.odds(8, 0, 0, 0), BEYOND);
    due("24: other below", x.odds(0, -1, 0, 0), BEYOND);
    due("24: other above", x.odds(0, 8, 0, 0), BEYOND);
    due("24: one place twice", x.odds(1, 1, 0, 0), BEYOND);
    due("24: load below", x.odds(0, 1, -1, 0), BEYOND);
    due("24: load above", x.odds(0, 1, 100, 0), BEYOND);
    due("24: part below", x.odds(0, 1, 0, -1), BEYOND);
    due("24: part above", x.odds(0, 1, 0, 2), BEYOND);
  }

  private static void odds(BreadSpans x, int load, int above, int below) {
    due("24: odds for " + load, x.odds(0, 1, load, 0), above);
    due("24: odds for " + load, x.odds(1, 0, load, 1), below);
  }

  // ---- promise 25

  private static void fits() {
    BreadSpans x = withSpans(5, 0, 1, 30, 0, 1);
    due("25: sheet below", x.fits(-1), BEYOND);
    due("25: sheet above", x.fits(4), BEYOND);
    due("25: missing", x.fits(0), NONE);
    x.sheet(0, 8, 2);
    due("25: not by 60", x.fits(0), NONE);
    x.put(0, 0, 25);
    x.put(0, 1, 8);
    due("25: now", x.fits(0), 0);
    x.put(0, 0, 15);
    x.put(0, 1, 18);
    due("25: five days", x.fits(0), 5);
    x.put(0, 1, 20);
    due("25: never both", x.fits(0), NONE);
    x.sheet(1, 32, 1);
    x.put(1, 0, 5);
    due("25: first of several", x.fits(1), 10);
    x.sheet(1, 32, 0);
    due("25: no numbers", x.fits(1), 0);
    x.sheet(1, 16, 3);
    x.put(1, 0, 25);
    x.put(1, 1, 8);
    due("25: no such SPAN", x.fits(1), NONE);
    x.eat(1);
    x.put(0, 0, 19);
    x.put(0, 1, -1);
    due("25: GONE is -1", x.fits(0), 3);
    due("25: only thought", x.count(1), 0);
    BreadSpans y = withSpans(60, 0, 1, 30, 0, 1);
    y.sheet(3, 16, 2);
    y.put(3, 0, 4);
    y.put(3, 1, 40);
    due("25: by DAY and AGE", y.fits(3), 18);
  }

  // ---- promise 26

  private static void voice() {
    // As number 2, m 7: what each KIND says to 5 with each VOICE.
    int[][] says = {
      {7, 14, 7, 1},
      {3, 6, -1, -1},
      {7, -14, -21, 1},
      {7, 14, 1, 1},
      {9, 18, 9, -5},
      {7, -16, -23, 1},
      {9, 25, 18, 1}
    };
    int[][][] traces = {
      {{10}, {11, 10}, {12, 11, 10}, {13}},
      {{20, 10}, {11, 20, 10}, {12, 11, 20, 10}, {21, 13, 11, 20, 10}},
      {{10}, {30, 11, 10}, {12, 30, 11, 10}, {13}},
      {{10}, {11, 10}, {40, 12, 11, 10}, {13}},
      {{50, 20, 10}, {11, 50, 20, 10}, {51, 12, 11, 50, 20, 10}, {21, 13, 11, 50, 20, 10}},
      {{10}, {60, 30, 11, 10}, {12, 60, 30, 11, 10}, {13}},
      {{70}, {71, 11, 70}, {12, 71, 11, 70}, {13}}
    };
    BreadSpans x = withSpans(0, 0, 1, 0, 0, 1, 0, 0, 1);
    for (int kind = 0; kind < 7; kind++) {
      x.become(2, 10 * kind + 7);
      for (int voice = 0; voice < 4; voice++) {
        due("26: voice " + voice + " of KIND " + kind, x.voice(2, voice, 5), says[kind][voice]);
        int[] trace = traces[kind][voice];
        due("26: how many BODIES", x.count(8), trace.length);
        for (int i = 0; i < trace.length; i++) {
          due("26: BODY " + i + " of VOICE " + voice + " of KIND " + kind, x.body(i), trace[i]);
        }
        due("27: behind the last", x.body(trace.length), NONE);
      }
    }
    voiceWraps(x);
    due("26: span below", x.voice(-1, 0, 0), BEYOND);
    due("26: span above", x.voice(3, 0, 0), BEYOND);
    due("26: voice below", x.voice(0, -1, 0), BEYOND);
    due("26: voice above", x.voice(0, 4, 0), BEYOND);
  }

  private static void voiceWraps(BreadSpans x) {
    x.become(2, 7);
    due("26: wraps", x.voice(2, 0, Integer.MAX_VALUE), Integer.MIN_VALUE + 1);
    due("26: wraps", x.voice(2, 1, 0x40000000), Integer.MIN_VALUE + 4);
    due("26: cut", x.voice(2, 3, -9), -1);
    x.become(2, 1);
    due("26: by -1", x.voice(2, 3, Integer.MIN_VALUE), Integer.MIN_VALUE);
    x.become(2, 30);
    due("26: cut", x.voice(2, 2, -3), 2);
    int told = x.told(1);
    x.become(2, 0);
    due("26: any number", x.voice(2, 0, BEYOND - 2), BEYOND);
    due("26: that is no ERROR", x.told(1), told);
    x.eat(2);
    due("26: GONE, too", x.voice(2, 0, 1), 3);
  }

  private static void voiceParted() {
    BreadSpans x = withSpans(0, 0, 1, 11, 0, 1, 41, 0, 1);
    due("26: a voice ahead", x.voice(1, 0, 3), 0);
    due("26: PARTED", x.voice(0, 3, 8), PARTED);
    due("26: THE TRACE of the latest", x.count(8), 1);
    due("26: THE TRACE of the latest", x.body(0), 13);
    due("26: PARTED within", x.voice(1, 3, 8), PARTED);
    due("26: what stands behind never begins", x.count(8), 2);
    due("26: THE TRACE", x.body(0), 21);
    due("26: THE TRACE", x.body(1), 13);
    due("26: told", x.told(6), 2);
    due("26: BEYOND", x.voice(0, 4, 1), BEYOND);
    due("26: THE TRACE stays", x.count(8), 2);
    due("26: not parted any more", x.voice(1, 2, 3), -1);
    due("26: THE TRACE", x.count(8), 4);
  }

  // ---- promise 27

  private static void body() {
    BreadSpans x = withSpans(0, 0, 1);
    due("27: none yet", x.body(0), NONE);
    x.voice(0, 1, 1);
    due("27: first", x.body(0), 11);
    due("27: second", x.body(1), 10);
    due("27: none such", x.body(2), NONE);
    due("27: below", x.body(-1), NONE);
    due("27: far", x.body(Integer.MAX_VALUE), NONE);
    due("27: far below", x.body(Integer.MIN_VALUE), NONE);
    x.voice(0, 0, 1);
    due("27: the latest only", x.body(1), NONE);
  }

  // ---- promise 28

  private static void sheet() {
    BreadSpans x = new BreadSpans();
    due("28: sheet below", x.sheet(-1, 8, 1), BEYOND);
    due("28: sheet above", x.sheet(4, 8, 1), BEYOND);
    due("28: bits", x.sheet(0, 7, 1), BEYOND);
    due("28: bits", x.sheet(0, 64, 1), BEYOND);
    due("28: bits", x.sheet(0, -8, 1), BEYOND);
    due("28: bits ahead of STATE", x.sheet(0, 1, -1), BEYOND);
    due("28: sheet ahead of STATE", x.sheet(4, 8, -1), BEYOND);
    due("28: n below", x.sheet(0, 8, -1), STATE);
    due("28: n above", x.sheet(0, 8, 25), BEYOND);
    due("28: missing still", x.put(0, 0, 0), NONE);
    due("28: the most", x.sheet(0, 8, 24), 1);
    due("28: the last", x.put(0, 23, 1), 1);
    due("28: behind", x.put(0, 24, 1), BEYOND);
    due("28: none", x.sheet(1, 16, 0), 1);
    due("28: none there", x.put(1, 0, 0), BEYOND);
    due("28: n does not matter", x.sheet(0, 0, -5), 1);
    due("28: missing", x.put(0, 0, 0), NONE);
    due("28: n does not matter", x.sheet(0, 0, 500), 1);
    due("28: told BEYOND", x.told(1), 10);
    BreadSpans y = withSpans(20, 0, 1);
    y.days(20);
    y.sheet(0, 32, 1);
    y.put(0, 0, 5);
    due("28: not 0", y.judge(0), 0);
    y.sheet(0, 32, 1);
    due("28: all 0", y.judge(0), 1);
    y.put(0, 0, 5);
    y.sheet(0, 8, -1);
    due("28: an ERROR changes nothing", y.judge(0), 0);
  }

  // ---- promise 29

  private static void put() {
    BreadSpans x = withSpans(5, 0, 1);
    due("29: sheet below", x.put(-1, 0, 0), BEYOND);
    due("29: sheet above", x.put(4, 0, 0), BEYOND);
    due("29: missing", x.put(0, 9, 0), NONE);
    x.sheet(0, 8, 1);
    x.sheet(1, 16, 1);
    x.sheet(2, 32, 1);
    due("29: below", x.put(0, -1, 0), BEYOND);
    due("29: above", x.put(0, 1, 0), BEYOND);
    due("29: lowest 8 bits", x.put(0, 0, 256 + 25), 1);
    due("29: lowest 8 bits", x.judge(0), 1);
    due("29: lowest 16 bits", x.put(1, 0, 256 + 25), 1);
    due("29: lowest 16 bits", x.judge(1), 0);
    due("29: lowest 16 bits", x.put(1, 0, 65536 * 7 + 25), 1);
    due("29: lowest 16 bits", x.judge(1), 1);
    due("29: 32 bits", x.put(2, 0, 65536 + 25), 1);
    due("29: 32 bits", x.judge(2), 0);
    due("29: 32 bits", x.put(2, 0, 25), 1);
    due("29: 32 bits", x.judge(2), 1);
    x.eat(0);
    for (int sheet = 0; sheet < 3; sheet++) {
      x.put(sheet, 0, -1);
      due("29: -1", x.judge(sheet), 1);
    }
    due("29: soaks", x.soaks(0), 0);
  }

  // ---- promise 30

  private static void move() {
    BreadSpans x = new BreadSpans();
    due("30: sheet below", x.move(-1, 0, 0, 0, 0), BEYOND);
    due("30: sheet above", x.move(4, 0, 0, 0, 0), BEYOND);
    due("30: other below", x.move(0, 0, -1, 0, 0), BEYOND);
    due("30: other above", x.move(0, 0, 4, 0, 0), BEYOND);
    due("30: missing", x.move(0, 0, 1, 0, 0), NONE);
    x.sheet(0, 8, 4);
    due("30: other missing", x.move(0, 0, 1, 0, 0), NONE);
    due("30: one missing", x.move(1, 0, 0, 0, 0), NONE);
    x.sheet(1, 16, 4);
    due("30: KIND ahead of BEYOND", x.move(0, 0, 1, 0, -1), KIND);
    x.sheet(1, 8, 3);
    due("30: n below", x.move(0, 0, 1, 0, -1), BEYOND);
    due("30: i below", x.move(0, -1, 1, 0, 0), BEYOND);
    due("30: j below", x.move(0, 0, 1, -1, 0), BEYOND);
    due("30: they don't stand there", x.move(0, 2, 1, 0, 3), BEYOND);
    due("30: no room there", x.move(0, 0, 1, 2, 2), BEYOND);
    due("30: no room there", x.move(0, 0, 1, 0, 4), BEYOND);
    due("30: far", x.move(0, Integer.MAX_VALUE, 1, 0, Integer.MAX_VALUE), BEYOND);
    due("30: far", x.move(0, 0, 1, Integer.MAX_VALUE, 1), BEYOND);
    due("30: none", x.move(0, 4, 1, 3, 0), 0);
    due("30: none, behind", x.move(0, 5, 1, 3, 0), BEYOND);
    due("30: none, behind", x.move(0, 4, 1, 4, 0), BEYOND);
    moveNumbers();
  }

  private static void moveNumbers() {
    BreadSpans x = withSpans(0, 0, 1, 0, 0, 1, 0, 0, 1, 0, 0, 1, 0, 0, 1);
    x.sheet(0, 8, 5);
    x.sheet(1, 8, 4);
    for (int i = 0; i < 5; i++) {
      x.put(0, i, i + 1);
    }
    due("30: another", x.move(0, 1, 1, 1, 3), 3);
    wets("30: another", x, 1, 0, 2, 3, 4);
    due("30: same, up", x.move(0, 0, 0, 1, 4), 4);
    wets("30: same, up", x, 0, 1, 1, 2, 3, 4);
    due("30: same, down", x.move(0, 2, 0, 0, 3), 3);
    wets("30: same, down", x, 0, 2, 3, 4, 3, 4);
    due("30: same place", x.move(0, 0, 0, 0, 5), 5);
    wets("30: same place", x, 0, 2, 3, 4, 3, 4);
    wets("30: the other stays", x, 1, 0, 2, 3, 4);
  }

  private static void wets(String when, BreadSpans x, int sheet, int... want) {
    due(when + ": soaks", x.soaks(sheet), want.length);
    for (int i = 0; i < want.length; i++) {
      due(when + ": WET of " + i, x.spanIs(i, 5), want[i]);
    }
  }

  // ---- promise 31

  private static void soaks() {
    BreadSpans x = withSpans(0, 0, 1, 0, 0, 1, 0, 0, 1);
    due("31: sheet below", x.soaks(-1), BEYOND);
    due("31: sheet above", x.soaks(4), BEYOND);
    due("31: missing", x.soaks(0), NONE);
    x.sheet(0, 16, 4);
    x.put(0, 0, 9);
    x.put(0, 1, 1);
    x.put(0, 2, 10);
    x.soak(2, 7);
    due("31: up to 10", x.soaks(0), 2);
    due("31: WET", x.spanIs(0, 5), 9);
    due("31: WET", x.spanIs(1, 5), 1);
    due("31: WET stays", x.spanIs(2, 5), 7);
    x.put(0, 2, -1);
    due("31: up to -1", x.soaks(0), 2);
    x.put(0, 2, 3);
    due("31: no such SPAN", x.soaks(0), 3);
    due("31: WET", x.spanIs(2, 5), 3);
    due("31: no ERROR told", x.told(2), 1);
    x.eat(0);
    x.put(0, 0, 0);
    x.sheet(1, 8, 1);
    x.put(1, 0, 4);
    due("31: fewer", x.soaks(1), 1);
    due("31: GONE, too", x.spanIs(0, 5), 4);
    due("31: others stay", x.spanIs(1, 5), 1);
  }

  // ---- promise 32

  private static void judge() {
    BreadSpans x = withSpans(0, 0, 1, 10, 0, 1, 20, 0, 1);
    due("32: sheet below", x.judge(-1), BEYOND);
    due("32: sheet above", x.judge(4), BEYOND);
    due("32: missing", x.judge(3), NONE);
    x.sheet(3, 8, 4);
    due("32: none", x.judge(3), 0);
    x.put(3, 1, 30);
    due("32: from the first on", x.judge(3), 0);
    x.put(3, 0, 20);
    due("32: two", x.judge(3), 2);
    x.put(3, 2, 12);
    due("32: no such SPAN", x.judge(3), 3);
    x.eat(1);
    due("32: GONE", x.judge(3), 1);
    x.put(3, 1, -1);
    due("32: GONE is -1", x.judge(3), 3);
    x.days(1);
    due("32: now", x.judge(3), 0);
    x.put(3, 0, 18);
    due("32: now", x.judge(3), 2);
  }

  // ---- promises 33 and 34

  private static void image() {
    BreadSpans x = new BreadSpans();
    due("33: first", x.image(), 1);
    due("33: second", x.image(), 2);
    x.restore();
    due("33: how often is not kept", x.image(), 3);
    BreadSpans y = withSpans(0, 0, 1);
    y.days(3);
    y.image();
    y.days(4);
    y.image();
    y.days(5);
    due("33: in place of one ahead", y.restore(), 7);
    due("33: AGE", y.spanIs(0, 4), 7);
  }

  private static void restore() {
    BreadSpans x = withSpans(25, 2, 3, 30, 0, 1);
    due("34: none", x.restore(), NONE);
    x.days(3);
    x.soak(0, 2);
    x.eat(1);
    x.store(0, 50);
    x.store(1, 3);
    x.cross(0, 2);
    x.cross(0, 90);
    written(x, 0, "4");
    tape(x, "r+");
    x.tell(3);
    x.tell(3);
    x.seed(77);
    x.voice(1, 0, 1);
    x.sheet(0, 8, 2);
    x.put(0, 0, 6);
    x.image();
    changeAll(x);
    due("34: restore", x.restore(), 3);
    asKept(x);
    changeAll(x);
    due("34: it stays", x.restore(), 3);
    asKept(x);
    due("34: TAPE goes on", x.feed('w', 1), 3);
    due("34: TAPE goes on", x.text(1), -10);
    due("34: numbers wait", x.check(), 0);
  }

  private static void changeAll(BreadSpans x) {
    x.feed(' ', 1);
    x.text(1);
    x.tell(9);
    x.check();
    x.span(60, 5, 6);
    x.span(60, 5, 6);
    x.become(0, 69);
    x.store(0, 9999);
    x.bakes(0);
    x.bakes(1);
    x.cross(0, 11);
    x.cross(1, 99);
    x.store(1, 8);
    written(x, 1, "7");
    x.untell(0);
    x.loose(7);
    x.tell(8);
    x.tell(8);
    x.tell(8);
    x.feed(0x313131, 3);
    x.voice(0, 1, 5);
    x.sheet(0, 16, 1);
    x.told(99);
  }

  private static void asKept(BreadSpans x) {
    int[] first = {2, 5, 2, 3, 3, 2, 1, -1, 20};
    int[] second = {3, 0, 0, 1, 3, 0, 1, -1, 5};
    for (int what = 0; what < 9; what++) {
      due("34: spanIs(0, " + what + ")", x.spanIs(0, what), first[what]);
      due("34: spanIs(1, " + what + ")", x.spanIs(1, what), second[what]);
    }
    int[] counts = {2, 3, 3, 50, 90, 1, 2, 2, 3, 77};
    for (int what = 0; what < counts.length; what++) {
      due("34: count(" + what + ")", x.count(what), counts[what]);
    }
    due("34: THE TRACE stays as it is", x.body(0), 71);
    due("34: the TEXT", x.law(0, 0, 0, 0), 4);
    due("34: no TEXT", x.law(1, 0, 0, 0), 1);
    due("34: SHEETS stay as they are", x.put(0, 1, 0), BEYOND);
  }

  // ---- promises 35 and 36

  private static void tell() {
    BreadSpans x = new BreadSpans();
    for (int i = 1; i <= 24; i++) {
      due("35: tell", x.tell(-i), i);
    }
    due("35: FULL", x.tell(0), FULL);
    due("35: waiting", x.count(7), 24);
    due("35: check", x.check(), 1);
    due("35: none wait", x.count(7), 0);
    due("35: tell", x.tell(Integer.MIN_VALUE), 1);
  }

  private static void check() {
    BreadSpans x = withSpans(0, 0, 1, 0, 0, 1);
    x.days(5);
    x.span(0, 0, 1);
    due("36: none", x.check(), 0);
    check(x, 0, 5);
    check(x, 0, 5, 5);
    check(x, 0, 5, 5, 0);
    check(x, 4, 5, 5, 0, 0);
    check(x, 1, 4, 5, 0);
    check(x, 2, 5, 4, 1);
    check(x, 3, 5, 5, 1);
    check(x, 1, 5 + 256, 5, 0);
    x.eat(1);
    check(x, 0, 5, 5, 0);
    due("36: no ERROR told", x.told(1) + x.told(2), 0);
  }

  private static void check(BreadSpans x, int want, int... numbers) {
    for (int i = 0; i < numbers.length; i++) {
      due("36: tell", x.tell(numbers[i]), i + 1);
    }
    due("36: check", x.check(), want);
    due("36: none wait", x.count(7), 0);
  }

  // ---- promise 37

  private static void count() {
    BreadSpans x = withSpans(0, 0, 1);
    x.store(1, 6);
    x.days(2);
    x.cross(0, 1);
    x.cross(0, 55);
    x.feed(0L, 7);
    x.tell(1);
    x.voice(0, 2, 2);
    x.seed(NONE);
    int[] counts = {1, 2, 6, 200, 55, 1, 7, 1, 3, NONE};
    for (int what = 0; what < counts.length; what++) {
      due("37: count(" + what + ")", x.count(what), counts[what]);
    }
    due("37: any number is no ERROR", x.told(2), 0);
    due("37: below", x.count(-1), BEYOND);
    due("37: above", x.count(10), BEYOND);
    due("37: told", x.told(1), 2);
  }

  // ---- promise 38

  private static void told() {
    BreadSpans x = withSpans(0, 0, 1);
    for (int k = 1; k <= 6; k++) {
      due("38: told(" + k + ")", x.told(k), 0);
    }
    due("38: below", x.told(0), BEYOND);
    due("38: above", x.told(7), BEYOND);
    due("38: counted, too", x.told(1), 2);
    x.restore();
    due("38: NONE", x.told(2), 1);
    x.sheet(0, 8, -1);
    due("38: STATE", x.told(3), 1);
    for (int i = 0; i < 25; i++) {
      x.tell(0);
    }
    due("38: FULL", x.told(4), 1);
    x.as(0, 3);
    due("38: KIND", x.told(5), 1);
    x.voice(0, 3, 0);
    due("38: PARTED", x.told(6), 1);
    due("38: the others stay", x.told(1), 2);
  }

  /** Every wrong call, and behind it all as it was. */
  private static void errorsChangeNothing() {
    BreadSpans x = withSpans(57, 0, 1, 41, 1, 2);
    x.days(4);
    x.store(0, 3);
    x.eat(1);
    x.sheet(0, 8, 2);
    x.put(0, 0, 11);
    x.put(0, 1, -1);
    x.sheet(1, 16, 2);
    tape(x, "r+w");
    int bears = x.spanIs(0, 7);
    x.put(0, 0, bears);
    int[] counts = new int[10];
    for (int what = 0; what < 10; what++) {
      counts[what] = x.count(what);
    }
    due("all: bakes", x.bakes(0), STATE);
    due("all: cross", x.cross(1, 5), STATE);
    due("all: cross", x.cross(0, 100), BEYOND);
    due("all: soak", x.soak(0, 99), BEYOND);
    due("all: become", x.become(0, 99), BEYOND);
    due("all: store", x.store(1, 99), BEYOND);
    due("all: text", x.text(7), BEYOND);
    due("all: feed", x.feed(0L, 9), BEYOND);
    due("all: days", x.days(-1), BEYOND);
    due("all: loose", x.loose(-1), BEYOND);
    due("all: put", x.put(0, 2, 9), BEYOND);
    due("all: move", x.move(0, 0, 1, 0, 1), KIND);
    due("all: move", x.move(0, 1, 0, 0, 2), BEYOND);
    due("all: restore", x.restore(), NONE);
    due("all: voice", x.voice(9, 0, 0), BEYOND);
    for (int what = 0; what < 10; what++) {
      due("all: count(" + what + ")", x.count(what), counts[what]);
    }
    due("all: SHEETS", x.judge(0), 2);
    due("all: AGE", x.spanIs(0, 4), 4);
    due("all: KIND", x.spanIs(0, 0), 5);
  }
}
