/** Promises 1 to 7: a new object, record, choice, box, tie, row, about. */
public final class ShapesTest {
  private static final int NONE = Due.NONE;

  public static void main(String[] args) {
    newObject();
    record();
    recordRefuses();
    choice();
    choiceRefuses();
    box();
    tie();
    row();
    atMost24();
    about();
    Due.finish();
  }

  private static void newObject() {
    CellYard y = new CellYard();
    Due.counts("new", y, 1, 1, 0, 0, 0, 0, 0, 0, 0, 0);
    Due.due("new: about(0, 0)", y.about(0, 0), 0);
    Due.due("new: about(1, 0)", y.about(1, 0), NONE);
    for (int slot = 0; slot < 8; slot++) {
      Due.due("new: shape of slot " + slot, y.shape(slot, 0), NONE);
    }
    Due.due("new: drop", y.drop(), NONE);
    Due.due("new: leave", y.leave(false), NONE);
    Due.due("new: out(0)", y.out(0), 0);
  }

  private static void aboutAll(CellYard y, int shape, int... want) {
    for (int what = 0; what < 5; what++) {
      Due.due("about(" + shape + ", " + what + ")", y.about(shape, what), want[what]);
    }
  }

  private static void record() {
    CellYard y = new CellYard();
    Due.due("one field", y.record(false, 0, NONE, NONE), 1);
    Due.due("two fields", y.record(false, 1, 0, NONE), 2);
    Due.due("three fields", y.record(false, 2, 1, 0), 3);
    Due.due("told alike, another one", y.record(false, 2, 1, 0), 4);
    Due.due("TOLD of INT", y.record(true, 0, NONE, NONE), 5);
    Due.due("TOLD with more", y.record(true, 0, 4, 2), 6);
    Due.due("SIZE 8", y.record(false, 4, 4, NONE), 7);
    aboutAll(y, 1, 1, 1, 0, NONE, NONE);
    aboutAll(y, 2, 1, 2, 1, 0, NONE);
    aboutAll(y, 3, 1, 4, 2, 1, 0);
    aboutAll(y, 5, 2, 1, 0, NONE, NONE);
    aboutAll(y, 6, 2, 7, 0, 4, 2);
    aboutAll(y, 7, 1, 8, 4, 4, NONE);
    Due.due("count(0)", y.count(0), 8);
  }

  private static void recordRefuses() {
    CellYard y = new CellYard();
    y.record(false, 0, 0, 0);
    Due.due("SIZE 9", y.record(false, 1, 1, 1), NONE);
    Due.due("no field", y.record(false, NONE, NONE, NONE), NONE);
    Due.due("a NONE", y.record(false, NONE, 0, 0), NONE);
    Due.due("b NONE, c not", y.record(false, 0, NONE, 0), NONE);
    Due.due("no such a", y.record(false, 2, NONE, NONE), NONE);
    Due.due("no such b", y.record(false, 0, 2, NONE), NONE);
    Due.due("no such c", y.record(false, 0, 0, 2), NONE);
    Due.due("b FULL", y.record(false, 0, -2, NONE), NONE);
    Due.due("c FULL", y.record(false, 0, 0, -2), NONE);
    Due.due("far b", y.record(false, 0, Integer.MIN_VALUE, NONE), NONE);
    Due.due("far a", y.record(false, Integer.MAX_VALUE, NONE, NONE), NONE);
    Due.due("TOLD of a RECORD of INT", y.record(true, 1, NONE, NONE), NONE);
    Due.due("SIZE 7, TOLD", y.record(true, 0, 1, 1), 2);
    Due.due("SIZE 11, TOLD", y.record(true, 0, 1, 2), NONE);
    Due.due("count(0)", y.count(0), 3);
  }

  private static void choice() {
    CellYard y = new CellYard();
    Due.due("no parts", y.choice(NONE, NONE, NONE), 1);
    Due.due("one part", y.choice(NONE, 0, NONE), 2);
    Due.due("three parts", y.choice(0, 1, 2), 3);
    Due.due("told alike, another one", y.choice(0, 1, 2), 4);
    Due.due("greatest last", y.choice(NONE, NONE, 3), 5);
    Due.due("greatest first", y.choice(3, NONE, 0), 6);
    aboutAll(y, 1, 3, 1, NONE, NONE, NONE);
    aboutAll(y, 2, 3, 2, NONE, 0, NONE);
    aboutAll(y, 3, 3, 3, 0, 1, 2);
    aboutAll(y, 5, 3, 4, NONE, NONE, 3);
    aboutAll(y, 6, 3, 4, 3, NONE, 0);
  }

  private static void choiceRefuses() {
    CellYard y = new CellYard();
    y.record(false, 0, 0, 0);
    y.record(false, 1, 1, 0);
    y.record(false, 2, 0, NONE);
    Due.due("SIZE 8", y.choice(2, NONE, NONE), 4);
    Due.due("SIZE 9, first", y.choice(3, NONE, NONE), NONE);
    Due.due("SIZE 9, second", y.choice(NONE, 3, NONE), NONE);
    Due.due("SIZE 9, third", y.choice(NONE, NONE, 4), NONE);
    Due.due("no such a", y.choice(5, 0, 0), NONE);
    Due.due("no such b", y.choice(0, 5, 0), NONE);
    Due.due("no such c", y.choice(0, 0, -2), NONE);
    Due.due("count(0)", y.count(0), 5);
  }

  private static void box() {
    CellYard y = new CellYard();
    Due.due("LOOSE", y.box(NONE), 1);
    Due.due("of INT", y.box(0), 2);
    Due.due("of INT, another one", y.box(0), 3);
    Due.due("of a LOOSE one", y.box(1), 4);
    Due.due("no such", y.box(5), NONE);
    Due.due("FULL", y.box(-2), NONE);
    aboutAll(y, 1, 4, 1, NONE, NONE, NONE);
    aboutAll(y, 2, 4, 1, 0, NONE, NONE);
    aboutAll(y, 4, 4, 1, 1, NONE, NONE);
  }

  private static void tie() {
    CellYard y = new CellYard();
    y.box(NONE);
    y.box(0);
    y.row(0);
    y.record(false, 1, 0, NONE);
    Due.due("not a BOX, INT", y.tie(0, 0), NONE);
    Due.due("not a BOX, ROW", y.tie(3, 0), NONE);
    Due.due("not a BOX, RECORD", y.tie(4, 0), NONE);
    Due.due("not LOOSE", y.tie(2, 0), NONE);
    Due.due("no such BOX", y.tie(5, 0), NONE);
    Due.due("no such BOX", y.tie(NONE, 0), NONE);
    Due.due("no such SHAPE", y.tie(1, 5), NONE);
    Due.due("to NONE", y.tie(1, NONE), NONE);
    aboutAll(y, 1, 4, 1, NONE, NONE, NONE);
    Due.due("LOOSE, to what it is in", y.tie(1, 4), 1);
    aboutAll(y, 1, 4, 1, 4, NONE, NONE);
    Due.due("once", y.tie(1, 0), NONE);
    aboutAll(y, 1, 4, 1, 4, NONE, NONE);
    y.box(NONE);
    Due.due("to itself", y.tie(5, 5), 1);
    aboutAll(y, 5, 4, 1, 5, NONE, NONE);
  }

  private static void row() {
    CellYard y = new CellYard();
    Due.due("of INT", y.row(0), 1);
    Due.due("another one", y.row(0), 2);
    Due.due("of a ROW", y.row(1), 3);
    Due.due("of NONE", y.row(NONE), NONE);
    Due.due("no such", y.row(4), NONE);
    aboutAll(y, 1, 5, 1, 0, NONE, NONE);
    aboutAll(y, 3, 5, 1, 1, NONE, NONE);
    Due.due("count(0)", y.count(0), 4);
  }

  private static void atMost24() {
    CellYard y = new CellYard();
    y.box(NONE);
    for (int i = 2; i < 24; i++) {
      Due.due("number " + i, y.record(false, 0, NONE, NONE), i);
    }
    Due.due("25th record", y.record(false, 0, NONE, NONE), NONE);
    Due.due("25th TOLD", y.record(true, 0, NONE, NONE), NONE);
    Due.due("25th choice", y.choice(NONE, NONE, NONE), NONE);
    Due.due("25th box", y.box(NONE), NONE);
    Due.due("25th row", y.row(0), NONE);
    Due.due("tie", y.tie(1, 23), 1);
    Due.due("the last one", y.about(23, 0), 1);
    Due.due("none behind it", y.about(24, 0), NONE);
    Due.due("count(0)", y.count(0), 24);
  }

  private static void about() {
    CellYard y = new CellYard();
    y.record(false, 0, 0, 0);
    aboutAll(y, 0, 0, 1, NONE, NONE, NONE);
    Due.due("what 5", y.about(1, 5), NONE);
    Due.due("what -1", y.about(1, -1), NONE);
    Due.due("least what", y.about(1, Integer.MIN_VALUE), NONE);
    Due.due("greatest what", y.about(1, Integer.MAX_VALUE), NONE);
    for (int what = 0; what < 5; what++) {
      Due.due("no such SHAPE", y.about(2, what), NONE);
      Due.due("no such SHAPE", y.about(NONE, what), NONE);
      Due.due("no such SHAPE", y.about(Integer.MIN_VALUE, what), NONE);
    }
  }
}
