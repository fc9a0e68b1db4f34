/** Promises 8 to 13: number, make, gather, open, apart, drop. */
public final class HandTest {
  private static final int NONE = Due.NONE;
  private static final int FULL = Due.FULL;

  public static void main(String[] args) {
    number();
    makeRecord();
    makeChoice();
    makeBox();
    makeRefusesOthers();
    atMost60Boxes();
    gather();
    gatherIsFull();
    open();
    apartRecord();
    apartChoice();
    drop();
    dropTellsInOrder();
    Due.finish();
  }

  /** The top of HAND, by way of slot 7. */
  private static long top(CellYard y) {
    y.store(7);
    long v = y.look(7, 0);
    y.load(7);
    return v;
  }

  private static void fillHand(CellYard y, int upTo) {
    for (int i = y.count(2); i < upTo; i++) {
      Due.due("number " + i, y.number(i), 1);
    }
  }

  private static void number() {
    CellYard y = new CellYard();
    Due.due("least", y.number(Long.MIN_VALUE), 1);
    Due.due("top", top(y), Long.MIN_VALUE);
    Due.due("greatest", y.number(Long.MAX_VALUE), 1);
    Due.due("top", top(y), Long.MAX_VALUE);
    fillHand(y, 24);
    Due.due("25th", y.number(5), FULL);
    Due.due("top", top(y), 23);
    Due.counts("full", y, 1, 1, 24, 24, 0);
    y.enter(8);
    fillHand(y, 24);
    Due.due("24 in all", y.number(5), FULL);
    Due.counts("full", y, 1, 2, 24, 8, 8);
  }

  private static void makeRecord() {
    CellYard y = new CellYard();
    y.record(false, 0, 0, 0);
    y.record(true, 0, 1, NONE);
    y.number(1);
    y.number(2);
    Due.due("too few", y.make(1, 0), NONE);
    y.number(3);
    y.number(4);
    Due.due("of three, any variant", y.make(1, -77), 1);
    Due.counts("made", y, 3, 1, 2, 2, 0, 0, 0, 0, 0, 0);
    Due.due("another SHAPE than told", y.make(1, 0), NONE);
    Due.due("TOLD", y.make(2, 99), 1);
    Due.counts("made", y, 3, 1, 1, 1, 0, 0, 0, 1, 0, 0);
    y.store(0);
    Due.due("shape", y.shape(0, 0), 2);
    Due.due("first", y.look(0, 0x1), 1);
    Due.due("second's first", y.look(0, 0x12), 2);
    Due.due("second's second", y.look(0, 0x22), 3);
    Due.due("second's third", y.look(0, 0x32), 4);
    y.number(5);
    y.number(6);
    y.number(7);
    y.enter(0);
    Due.due("the last FRAME's HAND has too few", y.make(1, 0), NONE);
    y.number(8);
    Due.due("still too few", y.make(1, 0), NONE);
    y.number(9);
    Due.due("order of fields", y.make(2, 0), NONE);
    Due.counts("same as ever", y, 3, 2, 5, 2, 1, 0, 0, 1, 0, 0);
  }

  private static void makeChoice() {
    CellYard y = new CellYard();
    y.record(false, 0, 0, NONE);
    y.choice(NONE, 0, 1);
    Due.due("no part", y.make(2, 0), 1);
    y.store(0);
    Due.due("state", y.state(0, 0), 0);
    Due.due("part", y.shape(0, 6), NONE);
    Due.due("too few", y.make(2, 1), NONE);
    y.number(5);
    Due.due("another part", y.make(2, 2), NONE);
    Due.due("no such variant", y.make(2, 3), NONE);
    Due.due("no such variant", y.make(2, -1), NONE);
    Due.due("no such variant", y.make(2, Integer.MIN_VALUE), NONE);
    Due.due("part", y.make(2, 1), 1);
    Due.due("one in HAND", y.count(2), 1);
    y.store(1);
    Due.due("state", y.state(1, 0), 1);
    Due.due("part", y.look(1, 6), 5);
    y.number(6);
    y.number(7);
    y.make(1, 0);
    Due.due("part", y.make(2, 2), 1);
    y.store(2);
    Due.due("state", y.state(2, 0), 2);
    Due.due("part", y.shape(2, 6), 1);
    Due.due("part", y.look(2, 0x16), 6);
    Due.due("part", y.look(2, 0x26), 7);
    fillHand(y, 24);
    Due.due("one too many in HAND", y.make(2, 0), FULL);
    Due.due("wrong ahead of FULL", y.make(2, 2), NONE);
    Due.due("in place of one", y.make(2, 1), 1);
    Due.due("24 in HAND", y.count(2), 24);
  }

  private static void makeBox() {
    CellYard y = new CellYard();
    y.box(NONE);
    y.box(0);
    y.box(2);
    Due.due("too few", y.make(2, 0), NONE);
    y.number(5);
    Due.due("LOOSE", y.make(1, 0), NONE);
    Due.due("another SHAPE", y.make(3, 0), NONE);
    Due.due("BOX", y.make(2, 1000), 1);
    Due.due("BOX of a BOX", y.make(3, 0), 1);
    Due.counts("two", y, 4, 1, 1, 1, 0, 2, 0, 0, 0, 0);
    y.store(0);
    Due.due("in it", y.shape(0, 5), 2);
    Due.due("in it", y.look(0, 0x55), 5);
    y.tie(1, 3);
    y.load(0);
    Due.due("no more LOOSE", y.make(1, 0), 1);
    y.store(0);
    Due.due("in it", y.look(0, 0x555), 5);
  }

  private static void makeRefusesOthers() {
    CellYard y = new CellYard();
    y.row(0);
    y.number(1);
    Due.due("INT", y.make(0, 0), NONE);
    Due.due("ROW", y.make(1, 0), NONE);
    Due.due("no such", y.make(2, 0), NONE);
    Due.due("no such", y.make(NONE, 0), NONE);
    Due.due("no such", y.make(Integer.MAX_VALUE, 0), NONE);
    Due.counts("same as ever", y, 2, 1, 1, 1, 0, 0, 0, 0, 0, 0);
  }

  private static void atMost60Boxes() {
    CellYard y = new CellYard();
    y.choice(NONE, NONE, NONE);
    y.box(NONE);
    y.choice(1, 2, NONE);
    y.tie(2, 3);
    y.make(1, 0);
    y.make(3, 0);
    for (int i = 0; i < 60; i++) {
      Due.due("box " + i, y.make(2, 0), 1);
      Due.due("around it", y.make(3, 1), 1);
    }
    Due.due("60", y.count(5), 60);
    Due.due("61st", y.make(2, 0), FULL);
    y.number(1);
    Due.due("wrong ahead of FULL", y.make(2, 0), NONE);
    y.drop();
    Due.due("apart", y.apart(), 1);
    Due.due("open", y.open(), 1);
    Due.due("59", y.count(5), 59);
    Due.due("a place is free", y.make(2, 0), 1);
    Due.due("drop", y.drop(), 1);
    Due.due("none", y.count(5), 0);
    y.make(1, 0);
    y.make(3, 0);
    Due.due("all are free", y.make(2, 0), 1);
  }

  private static void gather() {
    CellYard y = new CellYard();
    y.row(0);
    y.row(1);
    Due.due("of none", y.gather(1, 0), 1);
    Due.due("one in HAND", y.count(2), 1);
    for (int i = 0; i < 9; i++) {
      y.number(10 + i);
    }
    Due.due("nine", y.gather(1, 9), NONE);
    Due.due("less than none", y.gather(1, -1), NONE);
    Due.due("far less", y.gather(1, Integer.MIN_VALUE), NONE);
    Due.due("far more", y.gather(1, Integer.MAX_VALUE), NONE);
    Due.due("not a ROW", y.gather(0, 1), NONE);
    Due.due("no such SHAPE", y.gather(3, 1), NONE);
    Due.due("another SHAPE", y.gather(2, 1), NONE);
    Due.due("eight", y.gather(1, 8), 1);
    Due.counts("gathered", y, 3, 1, 3, 3, 0, 0, 2, 0, 0, 0);
    Due.due("one of another SHAPE", y.gather(2, 3), NONE);
    y.store(0);
    Due.due("state", y.state(0, 0), 8);
    for (int i = 0; i < 8; i++) {
      Due.due("element " + i, y.look(0, 8 + i), 11 + i);
    }
    Due.due("top", top(y), 10);
    y.enter(0);
    Due.due("the last FRAME's HAND has too few", y.gather(1, 1), NONE);
    Due.due("of none", y.gather(1, 0), 1);
    Due.due("a ROW of it", y.gather(2, 1), 1);
    Due.counts("gathered", y, 3, 2, 3, 1, 1, 0, 4, 0, 0, 0);
  }

  private static void gatherIsFull() {
    CellYard y = new CellYard();
    y.row(0);
    y.row(1);
    fillHand(y, 24);
    Due.due("one too many in HAND", y.gather(1, 0), FULL);
    Due.due("no more in HAND", y.gather(1, 1), 1);
    y.store(0);
    for (int i = 0; i < 19; i++) {
      Due.due("row " + i, y.gather(1, 0), 1);
      y.store(1 + i % 7);
      if (i % 7 == 6) {
        y.enter(0);
      }
    }
    Due.counts("20 there", y, 3, 3, 23, 0, 20, 0, 20, 0, 0, 0);
    Due.due("21st", y.gather(1, 0), FULL);
    Due.due("wrong ahead of FULL", y.gather(1, 1), NONE);
    y.load(1);
    Due.due("21st", y.gather(2, 1), FULL);
    y.drop();
    Due.due("a place is free", y.gather(1, 0), 1);
    Due.due("20 there", y.count(6), 20);
  }

  private static void open() {
    CellYard y = new CellYard();
    y.record(false, 0, 0, NONE);
    y.box(1);
    Due.due("nothing", y.open(), NONE);
    y.number(4);
    y.number(5);
    Due.due("INT", y.open(), NONE);
    y.make(1, 0);
    Due.due("RECORD", y.open(), NONE);
    y.make(2, 0);
    Due.due("BOX", y.count(5), 1);
    y.enter(0);
    Due.due("another FRAME's", y.open(), NONE);
    y.leave(false);
    Due.due("open", y.open(), 1);
    Due.counts("opened", y, 3, 1, 1, 1, 0, 0, 0, 0, 0, 0);
    y.store(0);
    Due.due("shape", y.shape(0, 0), 1);
    Due.due("first", y.look(0, 1), 4);
    Due.due("second", y.look(0, 2), 5);
  }

  private static void apartRecord() {
    CellYard y = new CellYard();
    y.record(false, 0, 0, NONE);
    y.record(false, 1, 0, 1);
    y.record(true, 0, 0, NONE);
    y.record(false, 0, NONE, NONE);
    Due.due("nothing", y.apart(), NONE);
    for (int i = 1; i <= 5; i++) {
      y.number(i);
      if (i == 2 || i == 5) {
        y.make(1, 0);
      }
    }
    y.make(2, 0);
    y.enter(0);
    Due.due("another FRAME's", y.apart(), NONE);
    y.leave(false);
    Due.due("three", y.apart(), 3);
    Due.due("two", y.apart(), 2);
    Due.due("INT", y.apart(), NONE);
    Due.counts("apart", y, 5, 1, 4, 4, 0, 0, 0, 0, 0, 0);
    y.enter(4);
    Due.due("shape", y.shape(0, 0), 1);
    Due.due("first", y.look(0, 1), 1);
    Due.due("first", y.look(0, 2), 2);
    Due.due("second", y.look(1, 0), 3);
    Due.due("third", y.look(2, 0), 4);
    Due.due("third", y.look(3, 0), 5);
    y.number(8);
    y.number(9);
    y.make(3, 0);
    Due.due("TOLD", y.apart(), NONE);
    y.drop();
    fillHand(y, 24);
    y.make(4, 0);
    Due.due("one in place of one", y.apart(), 1);
    y.make(1, 0);
    y.number(7);
    Due.due("top", top(y), 7);
    y.drop();
    Due.due("two where there is room", y.apart(), 2);
    y.make(1, 0);
    y.store(0);
    y.number(1);
    y.number(2);
    y.drop();
    y.load(0);
    Due.due("one too many in HAND", y.apart(), FULL);
    Due.due("24 in HAND", y.count(2), 24);
    y.store(0);
    Due.due("whole", y.look(0, 2), 23);
  }

  private static void apartChoice() {
    CellYard y = new CellYard();
    y.record(false, 0, 0, NONE);
    y.choice(NONE, 0, 1);
    y.make(2, 0);
    Due.due("none", y.apart(), 0);
    Due.due("gone", y.count(2), 0);
    y.number(5);
    y.make(2, 1);
    Due.due("one", y.apart(), 1);
    Due.due("top", top(y), 5);
    y.number(6);
    y.make(1, 0);
    y.make(2, 2);
    Due.due("one", y.apart(), 1);
    y.store(0);
    Due.due("shape", y.shape(0, 0), 1);
    Due.due("first", y.look(0, 1), 5);
    Due.due("second", y.look(0, 2), 6);
    y.row(0);
    y.box(0);
    y.gather(3, 0);
    Due.due("ROW", y.apart(), NONE);
    y.number(1);
    y.make(4, 0);
    Due.due("BOX", y.apart(), NONE);
  }

  private static void drop() {
    CellYard y = new CellYard();
    Due.due("nothing", y.drop(), NONE);
    y.number(1);
    y.enter(0);
    Due.due("another FRAME's", y.drop(), NONE);
    y.leave(false);
    Due.due("one", y.drop(), 1);
    Due.due("none left", y.drop(), NONE);
    Due.counts("empty", y, 1, 1, 0, 0, 0, 0, 0, 0, 0, 0);
  }

  /** Makes a TOLD one of SHAPE 1, which has one INT. */
  private static void told(CellYard y, long v) {
    y.number(v);
    y.make(1, 0);
  }

  private static void dropTellsInOrder() {
    CellYard y = new CellYard();
    y.record(true, 0, NONE, NONE);
    int box = y.box(1);
    int row = y.row(1);
    int choice = y.choice(1, box, row);
    int plain = y.record(false, 1, box, row);
    int outer = y.record(true, 0, choice, plain);
    y.number(1);
    told(y, 2);
    told(y, 3);
    y.gather(row, 2);
    y.make(choice, 2);
    told(y, 4);
    told(y, 5);
    y.make(box, 0);
    told(y, 6);
    told(y, 7);
    told(y, 8);
    y.gather(row, 3);
    Due.due("plain", y.make(plain, 0), 1);
    Due.due("outer", y.make(outer, 0), 1);
    Due.counts("made", y, 7, 1, 1, 1, 0, 1, 2, 8, 0, 0);
    Due.due("drop", y.drop(), 1);
    Due.outs("outer", y, 1, 2, 3, 4, 5, 6, 7, 8);
    Due.counts("dropped", y, 7, 1, 0, 0, 0, 0, 0, 8, 8, 8);
  }
}
