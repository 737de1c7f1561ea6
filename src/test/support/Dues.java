/** What the tests share: asking for the answer that is due, and calls that come again and again. */
abstract class Dues {
  static final int LOW = -1000000000;
  static final int BEYOND = LOW - 1;
  static final int NONE = LOW - 2;
  static final int STATE = LOW - 3;
  static final int FULL = LOW - 4;
  static final int KIND = LOW - 5;
  static final int PARTED = LOW - 6;

  static final int LEAST = Integer.MIN_VALUE;
  static final int MOST = Integer.MAX_VALUE;

  /** What the document says of which the next answers are a test. */
  static String saying = "";

  private static int wrong = 0;
  private static int asked = 0;
  private static int drawnZ = 1;

  static void due(String call, int got, int want) {
    asked++;
    if (got != want) {
      isWrong(call + " answered " + got + ", due is " + want);
    }
  }

  static void isWrong(String what) {
    wrong++;
    System.out.println(saying.isEmpty() ? what : saying + " " + what);
  }

  static void end() {
    System.out.println(wrong == 0 ? asked + " answers are as due" : wrong + " are not as due");
    if (wrong != 0) {
      System.exit(1);
    }
  }

  /** Feeds a text to THE TAPE, in words of 8 bytes at most. */
  static void tape(BreadSpans x, String s) {
    for (int at = 0; at < s.length(); at += 8) {
      int n = Math.min(8, s.length() - at);
      long word = 0;
      for (int i = n - 1; i >= 0; i--) {
        word = word << 8 | s.charAt(at + i);
      }
      due("feed " + s, x.feed(word, n), at + n);
    }
  }

  static void written(BreadSpans x, int use, String s) {
    tape(x, s);
    due("text(" + use + ") of " + s, x.text(use), 1);
  }

  static void faulty(int use, String s, int fault) {
    BreadSpans x = new BreadSpans();
    tape(x, s);
    due("text(" + use + ") of " + s, x.text(use), -10 - fault);
    due("no tape behind " + s, x.count(6), 0);
  }

  static void gives(String s, int r, int w, int k, int want) {
    BreadSpans x = new BreadSpans();
    written(x, 0, s);
    due("law(0, " + r + ", " + w + ", " + k + ") by " + s, x.law(0, r, w, k), want);
  }

  static BreadSpans withSpans(int... kmOneOther) {
    BreadSpans x = new BreadSpans();
    for (int i = 0; i < kmOneOther.length; i += 3) {
      due("span " + i / 3, x.span(kmOneOther[i], kmOneOther[i + 1], kmOneOther[i + 2]), i / 3);
    }
    return x;
  }

  static void ages(BreadSpans x, int n) {
    for (int left = n; left > 0; left -= 60) {
      x.days(Math.min(60, left));
    }
  }

  static void drawFrom(int z) {
    drawnZ = z;
  }

  static int draw() {
    drawnZ = (int) (drawnZ * 1103515245L + 12345L);
    return drawnZ >>> 8;
  }

  static int drawn() {
    return drawnZ;
  }

  /** Numbers that are not within low .. high: the ones next to it, and the farthest. */
  static int[] beyond(int low, int high) {
    return new int[] {low - 1, high + 1, LEAST, MOST};
  }
}
