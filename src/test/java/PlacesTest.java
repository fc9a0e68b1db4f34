/** Promises 14 to 19: store, load, set, swap, push, pop; and what a PLACE is. */
public final class PlacesTest {
  private static final int NONE = Due.NONE;
  private static final int FULL = Due.FULL;

  public static void main(String[] args) {
    store();
    load();
    paths();
    longPaths();
    set();
    setInside();
    swap();
    push();
    pop();
    Due.finish();
  }

  /** Makes a TOLD one of SHAPE 1, which has one INT. */
  private static void told(CellYard y, long v) {
    y.number(v);
    y.make(1, 0);
  }

  private static CellYard withTold() {
    CellYard y = new CellYard();
    y.record(true, 0, NONE, NONE);
    return y;
  }

  private static void store() {
    CellYard y = withTold();
    Due.due("nothing", y.store(0), NONE);
    told(y, 1);
    Due.due("no such SLOT", y.store(8), NONE);
    Due.due("no such SLOT", y.store(-1), NONE);
    Due.due("no such SLOT", y.store(Integer.MIN_VALUE), NONE);
    Due.due("no such SLOT", y.store(Integer.MAX_VALUE), NONE);
    Due.counts("same as ever", y, 2, 1, 1, 1, 0, 0, 0, 1, 0, 0);
    Due.due("first", y.store(0), 1);
    told(y, 2);
    Due.due("last", y.store(7), 1);
    Due.counts("stored", y, 2, 1, 0, 0, 2, 0, 0, 2, 0, 0);
    Due.due("slot 0", y.look(0, 1), 1);
    Due.due("slot 7", y.look(7, 1), 2);
    y.number(3);
    Due.due("another SHAPE", y.store(7), 1);
    Due.outs("dropped ahead", y, 2);
    Due.due("slot 7", y.look(7, 0), 3);
    Due.due("two", y.count(4), 2);
    y.number(4);
    y.enter(0);
    Due.due("another FRAME's", y.store(0), NONE);
    y.number(5);
    Due.due("the same SLOT of another FRAME", y.store(7), 1);
    Due.counts("stored", y, 2, 2, 1, 0, 3, 0, 0, 2, 1, 1);
    Due.due("slot 7", y.look(7, 0), 5);
    Due.due("slot 0", y.shape(0, 0), NONE);
    y.leave(false);
    Due.due("slot 7", y.look(7, 0), 3);
  }

  private static void load() {
    CellYard y = withTold();
    Due.due("nothing there", y.load(0), NONE);
    Due.due("no such SLOT", y.load(8), NONE);
    Due.due("no such SLOT", y.load(-1), NONE);
    told(y, 1);
    y.store(3);
    Due.due("load", y.load(3), 1);
    Due.counts("loaded", y, 2, 1, 1, 1, 0, 0, 0, 1, 0, 0);
    Due.due("no more", y.load(3), NONE);
    Due.due("no more", y.shape(3, 0), NONE);
    y.store(4);
    y.enter(0);
    Due.due("another FRAME's", y.load(4), NONE);
    y.leave(false);
    for (int i = 0; i < 24; i++) {
      y.number(i);
    }
    Due.due("HAND is full", y.load(4), FULL);
    Due.due("nothing there, ahead of FULL", y.load(3), NONE);
    Due.due("still there", y.look(4, 1), 1);
    y.drop();
    Due.due("load", y.load(4), 1);
    Due.due("24", y.count(2), 24);
    y.drop();
    Due.outs("that one", y, 1);
  }

  /** Slot 0: RECORD 5 of (INT, ROW of INT, CHOICE with a BOX of INT as it is). */
  private static CellYard withOneOfEach() {
    CellYard y = new CellYard();
    int row = y.row(0);
    int box = y.box(0);
    int choice = y.choice(NONE, NONE, box);
    y.record(true, 0, NONE, NONE);
    int record = y.record(false, 0, row, choice);
    y.number(10);
    for (int i = 0; i < 8; i++) {
      y.number(20 + i);
    }
    y.gather(row, 8);
    y.number(30);
    y.make(box, 0);
    y.make(choice, 2);
    y.make(record, 0);
    y.store(0);
    return y;
  }

  private static void paths() {
    CellYard y = withOneOfEach();
    Due.due("all", y.shape(0, 0), 5);
    Due.due("field 0", y.shape(0, 0x1), 0);
    Due.due("field 1", y.shape(0, 0x2), 1);
    Due.due("field 2", y.shape(0, 0x3), 3);
    Due.due("part", y.shape(0, 0x63), 2);
    Due.due("in the BOX", y.look(0, 0x563), 30);
    for (int i = 0; i < 8; i++) {
      Due.due("element " + i, y.look(0, 0x82 + 16 * i), 20 + i);
    }
    for (int digit = 4; digit < 16; digit++) {
      Due.due("of a RECORD " + digit, y.shape(0, digit), NONE);
    }
    for (int digit = 1; digit < 16; digit++) {
      Due.due("of an INT " + digit, y.shape(0, 0x1 + 16 * digit), NONE);
      Due.due("of a ROW " + digit, y.shape(0, 0x2 + 16 * digit), digit >= 8 ? 0 : NONE);
      Due.due("of a CHOICE " + digit, y.shape(0, 0x3 + 16 * digit), digit == 6 ? 2 : NONE);
      Due.due("of a BOX " + digit, y.shape(0, 0x63 + 256 * digit), digit == 5 ? 0 : NONE);
    }
    Due.due("behind a 0", y.shape(0, 0x10), NONE);
    Due.due("behind a 0", y.shape(0, 0x501), NONE);
    Due.due("behind a 0", y.shape(0, 0x6003), NONE);
    Due.due("behind a 0", y.shape(0, 0x100000), NONE);
    Due.due("a digit more", y.shape(0, 0x1000000), NONE);
    Due.due("a digit more", y.shape(0, 0x1000001), NONE);
    Due.due("below 0", y.shape(0, -1), NONE);
    Due.due("below 0", y.shape(0, 0x80000001), NONE);
    Due.due("least", y.shape(0, Integer.MIN_VALUE), NONE);
    Due.due("greatest", y.shape(0, Integer.MAX_VALUE), NONE);
    Due.due("no such SLOT", y.shape(8, 0), NONE);
    Due.due("no such SLOT", y.shape(-1, 0), NONE);
    Due.due("no value", y.shape(1, 0), NONE);
    y.enter(0);
    Due.due("another FRAME's", y.shape(0, 0), NONE);
    Due.due("another FRAME's", y.shape(-8, 0), NONE);
  }

  private static void longPaths() {
    CellYard y = new CellYard();
    for (int i = 0; i < 8; i++) {
      y.box(i);
    }
    y.number(5);
    for (int i = 1; i <= 7; i++) {
      y.make(i, 0);
      if (i >= 6) {
        y.store(i);
        y.load(i);
      }
      if (i == 6) {
        y.store(0);
        Due.due("six digits", y.look(0, 0x555555), 5);
        y.load(0);
      }
    }
    y.store(0);
    Due.due("six digits", y.shape(0, 0x555555), 1);
    Due.due("six digits", y.look(0, 0x555555), 0);
    Due.due("seven digits", y.look(0, 0x5555555), 0);
    Due.due("seven digits", y.shape(0, 0x5555555), NONE);
    Due.due("five digits", y.shape(0, 0x55555), 2);
  }

  private static void set() {
    CellYard y = withTold();
    told(y, 1);
    y.store(0);
    Due.due("nothing in HAND", y.set(0, 0), NONE);
    y.number(9);
    Due.due("another SHAPE", y.set(0, 0), NONE);
    Due.due("no such PLACE", y.set(0, 2), NONE);
    Due.due("no such SLOT", y.set(8, 0), NONE);
    Due.due("no value", y.set(1, 0), NONE);
    y.record(true, 0, NONE, NONE);
    y.number(8);
    y.make(2, 0);
    Due.due("told alike is another SHAPE", y.set(0, 0), NONE);
    Due.counts("same as ever", y, 3, 1, 2, 2, 1, 0, 0, 2, 0, 0);
    y.drop();
    Due.due("a TOLD one's first", y.set(0, 1), 1);
    Due.outs("nothing more told", y, 8);
    told(y, 2);
    Due.due("the whole", y.set(0, 0), 1);
    Due.outs("as it is now", y, 8, 9);
    Due.due("look", y.look(0, 1), 2);
    Due.counts("set", y, 3, 1, 0, 0, 1, 0, 0, 3, 2, 2);
    told(y, 3);
    y.enter(0);
    Due.due("another FRAME's", y.set(0, 0), NONE);
  }

  private static void setInside() {
    CellYard y = withTold();
    int box = y.box(NONE);
    int list = y.choice(NONE, NONE, box);
    int node = y.record(false, 1, list, NONE);
    y.tie(box, node);
    y.make(list, 0);
    y.store(1);
    for (int i = 1; i <= 3; i++) {
      told(y, i);
      y.load(1);
      y.make(node, 0);
      y.make(box, 0);
      y.make(list, 2);
      y.store(1);
    }
    Due.due("three there", y.count(5), 3);
    Due.due("the first", y.look(1, 0x1156), 3);
    y.make(list, 0);
    Due.due("cut behind the first", y.set(1, 0x256), 1);
    Due.outs("what was behind it", y, 2, 1);
    Due.due("one there", y.count(5), 1);
    Due.due("the first", y.look(1, 0x1156), 3);
    Due.due("its end", y.state(1, 0x256), 0);
    told(y, 9);
    Due.due("a TOLD one in a BOX", y.set(1, 0x156), 1);
    Due.outs("that one", y, 2, 1, 3);
    Due.due("the first", y.look(1, 0x1156), 9);
    Due.due("its end is as it was", y.state(1, 0x256), 0);
  }

  private static void swap() {
    CellYard y = withTold();
    int pair = y.record(false, 1, 1, NONE);
    told(y, 1);
    told(y, 2);
    y.make(pair, 0);
    y.store(0);
    Due.due("nothing in HAND", y.swap(0, 1), NONE);
    told(y, 3);
    Due.due("another SHAPE", y.swap(0, 0), NONE);
    Due.due("no such PLACE", y.swap(0, 3), NONE);
    Due.due("no value", y.swap(1, 0), NONE);
    Due.due("no such SLOT", y.swap(-1, 0), NONE);
    Due.due("swap", y.swap(0, 2), 1);
    Due.due("one stays", y.look(0, 0x11), 1);
    Due.due("one came", y.look(0, 0x12), 3);
    Due.outs("none", y);
    y.drop();
    Due.outs("one went", y, 2);
    told(y, 4);
    told(y, 5);
    y.make(pair, 0);
    Due.due("the whole", y.swap(0, 0), 1);
    Due.due("came", y.look(0, 0x11), 4);
    Due.due("came", y.look(0, 0x12), 5);
    y.drop();
    Due.outs("went", y, 2, 1, 3);
    told(y, 6);
    y.enter(0);
    Due.due("another FRAME's", y.swap(0, 1), NONE);
    y.leave(false);
    for (int i = y.count(2); i < 23; i++) {
      y.number(i);
    }
    told(y, 7);
    Due.due("HAND is full all the same", y.swap(0, 1), 1);
    Due.due("came", y.look(0, 0x11), 7);
    Due.due("the field behind it stays", y.look(0, 0x12), 5);
  }

  private static void push() {
    CellYard y = withTold();
    int row = y.row(1);
    y.gather(row, 0);
    y.store(0);
    Due.due("nothing in HAND", y.push(0, 0), NONE);
    y.number(1);
    Due.due("another SHAPE", y.push(0, 0), NONE);
    y.drop();
    for (int i = 1; i <= 8; i++) {
      told(y, i);
      Due.due("push", y.push(0, 0), i);
    }
    Due.due("HAND", y.count(2), 0);
    told(y, 9);
    Due.due("there are 8", y.push(0, 0), FULL);
    Due.due("HAND", y.count(2), 1);
    Due.due("state", y.state(0, 0), 8);
    Due.due("not a ROW", y.push(0, 8), NONE);
    Due.due("no such PLACE", y.push(0, 1), NONE);
    Due.due("no value", y.push(1, 0), NONE);
    Due.due("no such SLOT", y.push(8, 0), NONE);
    y.number(5);
    Due.due("another SHAPE, ahead of FULL", y.push(0, 0), NONE);
    for (int i = 1; i <= 8; i++) {
      Due.due("element", y.look(0, 0x10 + 7 + i), i);
    }
    y.load(0);
    y.drop();
    Due.outs("from the first on", y, 1, 2, 3, 4, 5, 6, 7, 8);
    Due.due("no ROW", y.count(6), 0);
    y.gather(row, 0);
    y.store(0);
    Due.due("the HAND's top alone", y.push(0, 0), NONE);
    y.drop();
    Due.due("into a place used before", y.push(0, 0), 1);
    Due.due("element", y.look(0, 0x18), 9);
    Due.due("no more", y.shape(0, 9), NONE);
    told(y, 7);
    y.enter(0);
    y.gather(row, 0);
    y.store(0);
    Due.due("another FRAME's", y.push(0, 0), NONE);
  }

  private static void pop() {
    CellYard y = withTold();
    int row = y.row(1);
    int rows = y.row(row);
    told(y, 1);
    told(y, 2);
    y.gather(row, 2);
    y.gather(rows, 1);
    y.store(0);
    Due.due("not a ROW", y.pop(0, 0x88), NONE);
    Due.due("no such PLACE", y.pop(0, 9), NONE);
    Due.due("no value", y.pop(1, 0), NONE);
    Due.due("no such SLOT", y.pop(8, 0), NONE);
    for (int i = 0; i < 24; i++) {
      y.number(i);
    }
    Due.due("HAND is full", y.pop(0, 8), FULL);
    Due.due("not a ROW, ahead of FULL", y.pop(0, 0x88), NONE);
    Due.due("state", y.state(0, 8), 2);
    y.drop();
    y.drop();
    Due.due("pop", y.pop(0, 8), 1);
    Due.due("pop", y.pop(0, 8), 0);
    Due.due("24 in HAND", y.count(2), 24);
    Due.due("none, ahead of FULL", y.pop(0, 8), NONE);
    y.drop();
    y.drop();
    Due.outs("the last one first", y, 1, 2);
    Due.due("none", y.pop(0, 8), NONE);
    Due.due("pop a ROW", y.pop(0, 0), 0);
    Due.counts("popped", y, 4, 1, 23, 23, 1, 0, 2, 2, 2, 2);
    y.store(1);
    Due.due("it", y.shape(1, 0), row);
  }
}
