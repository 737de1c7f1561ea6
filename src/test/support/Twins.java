import java.util.ArrayList;
import java.util.List;

/**
 * Two objects with which the same was done; a call comes to one of them alone, and then all that
 * can be asked of them is asked of both.
 */
abstract class Twins extends Sentences {
  interface State {
    BreadSpans made();
  }

  interface Act {
    int on(BreadSpans x);
  }

  interface ActWith {
    int on(BreadSpans x, int v);
  }

  /** Something of all that there is. SPANS 1 and 3 are GONE, SHEET 3 is missing. */
  static BreadSpans rich() {
    BreadSpans x = withSpans(5, 0, 1, 24, 1, 2, 47, 2, 0, 57, 3, 4);
    x.store(1, 3);
    written(x, 0, "r-w");
    x.days(4);
    tape(x, "(w=2)*7");
    x.tell(4);
    x.tell(5);
    x.image();
    x.check();
    x.text(1);
    x.span(60, 5, 6);
    x.days(2);
    written(x, 1, "l+m");
    x.cross(0, 1);
    x.eat(1);
    x.cross(3, 90);
    x.store(0, 3);
    x.seed(77);
    x.voice(2, 2, 9);
    x.tell(6);
    x.tell(6);
    tape(x, "r*2+w");
    for (int sheet = 0; sheet < 3; sheet++) {
      x.sheet(sheet, 8 << sheet, 3 + sheet);
      for (int i = 0; i < 3 + sheet; i++) {
        x.put(sheet, i, 1 + sheet + i);
      }
    }
    return x;
  }

  static BreadSpans withNineSpans() {
    BreadSpans x = rich();
    for (int i = x.count(0); i < 9; i++) {
      x.span(i, 6, 7);
    }
    return x;
  }

  static BreadSpans withTapeOf(int bytes) {
    BreadSpans x = rich();
    while (x.count(6) < bytes) {
      x.feed('+', 1);
    }
    return x;
  }

  static BreadSpans withWaiting(int numbers) {
    BreadSpans x = rich();
    while (x.count(7) < numbers) {
      x.tell(6);
    }
    return x;
  }

  static BreadSpans onDay(int day) {
    BreadSpans x = rich();
    ages(x, day - 6);
    due("DAY", x.count(1), day);
    return x;
  }

  /** The call has this answer, ERROR or not; it changes nothing but what told() tells of it. */
  static void changesNothing(String call, State state, int answer, Act act) {
    BreadSpans x = state.made();
    BreadSpans twin = state.made();
    due(call, act.on(x), answer);
    for (int k = 1; k <= 6; k++) {
      due("told(" + k + ") behind " + call, x.told(k), twin.told(k) + (answer == LOW - k ? 1 : 0));
    }
    isSame("behind " + call, all(x), all(twin));
  }

  static void refused(String call, int error, Act act) {
    changesNothing(call, Twins::rich, error, act);
  }

  /** The call is BEYOND with whatever stands for its ? that is not within low .. high. */
  static void beyondAt(String call, int low, int high, ActWith act) {
    for (int v : beyond(low, high)) {
      refused(call.replace("?", "" + v), BEYOND, x -> act.on(x, v));
    }
  }

  static void isSame(String when, List<String> got, List<String> want) {
    for (int i = 0; i < Math.max(got.size(), want.size()); i++) {
      String is = i < got.size() ? got.get(i) : "nothing";
      String of = i < want.size() ? want.get(i) : "nothing";
      if (!is.equals(of)) {
        isWrong(when + " is " + is + ", due is " + of);
        return;
      }
    }
  }

  /** All that can be asked but told(); what is asked is changed by it. */
  static List<String> all(BreadSpans x) {
    List<String> lines = new ArrayList<>();
    bodies(lines, x);
    state(lines, x, "now: ");
    sheets(lines, x);
    lines.add("restore() = " + x.restore());
    state(lines, x, "in the IMAGE: ");
    lines.add("image() = " + x.image());
    return lines;
  }

  /** All that an IMAGE keeps. */
  static void state(List<String> lines, BreadSpans x, String when) {
    for (int what = 0; what < 10; what++) {
      if (what != 8) {
        lines.add(when + "count(" + what + ") = " + x.count(what));
      }
    }
    for (int span = 0; span < x.count(0); span++) {
      for (int what = 0; what < 9; what++) {
        lines.add(when + "spanIs(" + span + ", " + what + ") = " + x.spanIs(span, what));
      }
    }
    for (int use = 0; use < 2; use++) {
      lines.add(when + "law(" + use + ", 7, 3, 2) = " + x.law(use, 7, 3, 2));
      lines.add(when + "law(" + use + ", 0, 2, 9) = " + x.law(use, 0, 2, 9));
    }
    lines.add(when + "text(0) = " + x.text(0));
    lines.add(when + "what it gives = " + x.law(0, 1, 2, 3));
    lines.add(when + "check() = " + x.check());
  }

  static void bodies(List<String> lines, BreadSpans x) {
    lines.add("count(8) = " + x.count(8));
    for (int i = 0; i < 7; i++) {
      lines.add("body(" + i + ") = " + x.body(i));
    }
  }

  static void sheets(List<String> lines, BreadSpans x) {
    for (int sheet = 0; sheet < 4; sheet++) {
      lines.add("judge(" + sheet + ") = " + x.judge(sheet));
      lines.add("soaks(" + sheet + ") = " + x.soaks(sheet));
      for (int span = 0; span < 5; span++) {
        lines.add("WET of " + span + " by SHEET " + sheet + " = " + x.spanIs(span, 5));
      }
    }
    for (int sheet = 0; sheet < 4; sheet++) {
      for (int other = 0; other < 4; other++) {
        lines.add("move from " + sheet + " to " + other + " = " + x.move(sheet, 0, other, 0, 0));
      }
      for (int i = 0; i < 24; i = i < 6 ? i + 1 : i + 17) {
        lines.add("put(" + sheet + ", " + i + ", 0) = " + x.put(sheet, i, 0));
      }
    }
  }
}
