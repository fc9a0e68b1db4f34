/** Promises 23 to 27: shape, look, state, out, count. */
public final class TellingTest {
  private static final int NONE = Due.NONE;

  public static void main(String[] args) {
    shapeLookState();
    outKeeps400();
    wrongCounts();
    eachCount();
    manyLevels();
    longChain();
    mostWaiting();
    Due.finish();
  }

  private static void shapeLookState() {
    CellYard y = new CellYard();
    int choice = y.choice(0, NONE, 0);
    int row = y.row(choice);
    int box = y.box(row);
    int record = y.record(true, 0, box, choice);
    y.number(-7);
    y.number(5);
    y.make(choice, 2);
    y.make(choice, 1);
    y.gather(row, 2);
    y.make(box, 0);
    y.number(6);
    y.make(choice, 0);
    y.make(record, 0);
    y.store(6);
    int[] paths = {0, 0x1, 0x2, 0x52, 0x852, 0x6852, 0x952, 0x6952, 0x3, 0x63, 0xA52};
    int[] shapes = {record, 0, box, row, choice, 0, choice, NONE, choice, 0, NONE};
    long[] looks = {0, -7, 0, 0, 0, 5, 0, 0, 0, 6, 0};
    int[] states = {NONE, NONE, NONE, 2, 2, NONE, 1, NONE, 0, NONE, NONE};
    for (int i = 0; i < paths.length; i++) {
      String at = "at " + Integer.toHexString(paths[i]);
      Due.due("shape " + at, y.shape(6, paths[i]), shapes[i]);
      Due.due("look " + at, y.look(6, paths[i]), looks[i]);
      Due.due("state " + at, y.state(6, paths[i]), states[i]);
    }
    int[] slots = {0, 7, 8, -1, Integer.MIN_VALUE, Integer.MAX_VALUE};
    for (int slot : slots) {
      Due.due("shape of " + slot, y.shape(slot, 0), NONE);
      Due.due("look of " + slot, y.look(slot, 1), 0);
      Due.due("state of " + slot, y.state(slot, 0), NONE);
    }
    Due.due("look at -1", y.look(6, -1), 0);
    Due.due("state at -1", y.state(6, -1), NONE);
  }

  private static void outKeeps400() {
    CellYard y = new CellYard();
    y.record(true, 0, NONE, NONE);
    y.record(true, 0, 1, 1);
    int made = 0;
    for (int i = 0; i < 140; i++) {
      int before = y.count(9);
      y.number(3 * i);
      y.number(3 * i + 1);
      y.make(1, 0);
      y.number(3 * i + 2);
      y.make(1, 0);
      y.make(2, 0);
      y.drop();
      made += 3;
      Due.due("made", y.count(7), made);
      Due.due("dropped", y.count(8), made);
      Due.due("in OUT", y.count(9), Math.min(before + 3, 400));
    }
    for (int i = 0; i < 400; i++) {
      Due.due("out " + i, y.out(i), i);
    }
    Due.due("out 400", y.out(400), 0);
    Due.due("out -1", y.out(-1), 0);
    Due.due("least", y.out(Integer.MIN_VALUE), 0);
    Due.due("greatest", y.out(Integer.MAX_VALUE), 0);
  }

  private static void wrongCounts() {
    CellYard y = new CellYard();
    Due.due("10", y.count(10), NONE);
    Due.due("-1", y.count(-1), NONE);
    Due.due("least", y.count(Integer.MIN_VALUE), NONE);
    Due.due("greatest", y.count(Integer.MAX_VALUE), NONE);
  }

  private static void eachCount() {
    CellYard y = new CellYard();
    y.record(true, 0, NONE, NONE);
    int box = y.box(1);
    int row = y.row(box);
    for (int i = 0; i < 6; i++) {
      y.number(100 + i);
      y.make(1, 0);
      if (i < 5) {
        y.make(box, 0);
      }
    }
    Due.counts("six", y, 4, 1, 6, 6, 0, 5, 0, 6, 0, 0);
    y.drop();
    Due.counts("five", y, 4, 1, 5, 5, 0, 5, 0, 6, 1, 1);
    y.gather(row, 2);
    y.gather(row, 0);
    Due.counts("rows", y, 4, 1, 5, 5, 0, 5, 2, 6, 1, 1);
    y.enter(3);
    y.number(1);
    Due.counts("entered", y, 4, 2, 3, 1, 3, 5, 2, 6, 1, 1);
    y.load(1);
    y.drop();
    Due.counts("dropped a ROW", y, 4, 2, 3, 1, 2, 3, 1, 6, 3, 3);
    Due.outs("its elements", y, 105, 103, 104);
    y.leave(false);
    Due.counts("left", y, 4, 1, 2, 2, 0, 2, 0, 6, 4, 4);
  }

  /** As deep as 512 calls reach: a TOLD one, then RECORD in RECORD in BOX, over and over. */
  private static void manyLevels() {
    CellYard y = new CellYard();
    y.record(true, 0, NONE, NONE);
    int box = y.box(NONE);
    int choice = y.choice(1, box, NONE);
    int last = choice;
    for (int i = 0; i < 19; i++) {
      last = y.record(false, last, NONE, NONE);
    }
    y.tie(box, last);
    y.number(77);
    y.make(1, 0);
    int variant = 0;
    for (int i = 0; i < 21; i++) {
      y.make(choice, variant);
      for (int shape = choice + 1; shape <= last; shape++) {
        y.make(shape, 0);
      }
      Due.due("box " + i, y.make(box, 0), 1);
      variant = 1;
    }
    Due.due("boxes", y.count(5), 21);
    Due.due("drop", y.drop(), 1);
    Due.due("boxes", y.count(5), 0);
    Due.outs("the innermost", y, 77);
  }

  /** A chain by its first field, so that all the rest of it waits till its end is dropped. */
  private static void longChain() {
    CellYard y = new CellYard();
    int leaf = y.record(true, 0, NONE, NONE);
    int box = y.box(NONE);
    int row = y.row(leaf);
    int link = y.choice(NONE, box, NONE);
    int three = y.record(false, leaf, leaf, leaf);
    int node = y.record(false, link, three, row);
    y.tie(box, node);
    y.make(link, 0);
    for (int i = 0; i < 20; i++) {
      leaves(y, leaf, 8 * i, 3);
      y.make(three, 0);
      leaves(y, leaf, 8 * i + 3, 5);
      y.gather(row, 5);
      y.make(node, 0);
      y.make(box, 0);
      y.make(link, 1);
    }
    Due.counts("made", y, 7, 1, 1, 1, 0, 20, 20, 160, 0, 0);
    Due.due("drop", y.drop(), 1);
    Due.counts("dropped", y, 7, 1, 0, 0, 0, 0, 0, 160, 160, 160);
    for (int i = 0; i < 160; i++) {
      Due.due("out " + i, y.out(i), i);
    }
  }

  /** About as much as 512 calls can make wait: six fields of each of 45 RECORDS, behind the next one. */
  private static void mostWaiting() {
    CellYard y = new CellYard();
    int leaf = y.record(true, 0, NONE, NONE);
    int box = y.box(NONE);
    int link = y.choice(leaf, box, NONE);
    int inner = y.record(false, link, 0, 0);
    int middle = y.record(false, inner, 0, 0);
    int node = y.record(false, middle, 0, 0);
    y.tie(box, node);
    leaves(y, leaf, 55, 1);
    y.make(link, 0);
    for (int i = 0; i < 45; i++) {
      for (int record = inner; record <= node; record++) {
        y.number(i);
        y.number(i);
        y.make(record, 0);
      }
      y.make(box, 0);
      y.make(link, 1);
    }
    Due.counts("made", y, 7, 1, 1, 1, 0, 45, 0, 1, 0, 0);
    Due.due("drop", y.drop(), 1);
    Due.counts("dropped", y, 7, 1, 0, 0, 0, 0, 0, 1, 1, 1);
    Due.outs("the innermost", y, 55);
  }

  private static void leaves(CellYard y, int leaf, int first, int n) {
    for (int i = 0; i < n; i++) {
      y.number(first + i);
      y.make(leaf, 0);
    }
  }
}
