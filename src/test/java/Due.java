/** Counts the answers that are not as due; each test ends with finish(). */
final class Due {
  static final int NONE = -1;
  static final int FULL = -2;

  private static int wrong = 0;
  private static int asked = 0;

  private Due() {
  }

  static void due(String call, long got, long want) {
    asked++;
    if (got != want) {
      wrong++;
      System.out.println(call + " answered " + got + ", due is " + want);
    }
  }

  /** Two texts of many lines, of which the first line that is not the same is told. */
  static void same(String where, String got, String want) {
    String[] gotLines = got.split("\n");
    String[] wantLines = want.split("\n");
    asked++;
    for (int i = 0; i < Math.max(gotLines.length, wantLines.length); i++) {
      String one = i < gotLines.length ? gotLines[i] : "no more";
      String other = i < wantLines.length ? wantLines[i] : "no more";
      if (!one.equals(other)) {
        wrong++;
        System.out.println(where + ": line " + i + " is '" + one + "', due is '" + other + "'");
        return;
      }
    }
  }

  /** All of count(0) .. count(9), in one row. */
  static void counts(String where, CellYard yard, int... want) {
    for (int what = 0; what < want.length; what++) {
      due(where + ": count(" + what + ")", yard.count(what), want[what]);
    }
  }

  /** All of OUT. */
  static void outs(String where, CellYard yard, long... want) {
    due(where + ": count(9)", yard.count(9), want.length);
    for (int i = 0; i < want.length; i++) {
      due(where + ": out(" + i + ")", yard.out(i), want[i]);
    }
    due(where + ": out behind the last", yard.out(want.length), 0);
  }

  static void finish() {
    if (wrong != 0) {
      System.out.println(wrong + " of " + asked + " answers are not as due");
      System.exit(1);
    }
    System.out.println(asked + " answers are as due");
  }
}
