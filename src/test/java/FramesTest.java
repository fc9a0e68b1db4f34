/** Promises 20 to 22: enter, leave, fail. */
public final class FramesTest {
  private static final int NONE = Due.NONE;
  private static final int FULL = Due.FULL;

  public static void main(String[] args) {
    enter();
    atMost12();
    leaveWithout();
    leaveAnswers();
    leaveRefuses();
    partsOfHand();
    fail();
    failOfOne();
    Due.finish();
  }

  private static CellYard withTold() {
    CellYard y = new CellYard();
    y.record(true, 0, NONE, NONE);
    return y;
  }

  /** Makes TOLD ones of SHAPE 1, which has one INT. */
  private static void told(CellYard y, long... all) {
    for (long v : all) {
      y.number(v);
      y.make(1, 0);
    }
  }

  private static void toldTo(CellYard y, int slot, long v) {
    told(y, v);
    y.store(slot);
  }

  private static void enter() {
    CellYard y = withTold();
    Due.due("too few", y.enter(1), NONE);
    for (int i = 0; i < 10; i++) {
      y.number(i);
    }
    Due.due("nine", y.enter(9), NONE);
    Due.due("less than none", y.enter(-1), NONE);
    Due.due("least", y.enter(Integer.MIN_VALUE), NONE);
    Due.due("greatest", y.enter(Integer.MAX_VALUE), NONE);
    Due.counts("same as ever", y, 2, 1, 10, 10, 0, 0, 0, 0, 0, 0);
    Due.due("eight", y.enter(8), 2);
    Due.counts("entered", y, 2, 2, 2, 0, 8, 0, 0, 0, 0, 0);
    for (int i = 0; i < 8; i++) {
      Due.due("slot " + i, y.look(i, 0), 2 + i);
    }
    Due.due("the HAND of the FRAME ahead", y.enter(1), NONE);
    y.number(50);
    told(y, 51);
    Due.due("two", y.enter(2), 3);
    Due.due("slot 0", y.look(0, 0), 50);
    Due.due("slot 1", y.look(1, 1), 51);
    Due.due("slot 2", y.shape(2, 0), NONE);
    Due.due("none", y.enter(0), 4);
    Due.counts("entered", y, 2, 4, 2, 0, 10, 0, 0, 1, 0, 0);
  }

  private static void atMost12() {
    CellYard y = new CellYard();
    for (int i = 2; i <= 12; i++) {
      Due.due("enter", y.enter(0), i);
    }
    y.number(1);
    Due.due("13th", y.enter(0), FULL);
    Due.due("13th", y.enter(1), FULL);
    Due.due("too few, ahead of FULL", y.enter(2), NONE);
    Due.due("nine, ahead of FULL", y.enter(9), NONE);
    Due.counts("same as ever", y, 1, 12, 1, 1, 0, 0, 0, 0, 0, 0);
    for (int slot = 0; slot < 8; slot++) {
      y.number(slot);
      y.store(slot);
    }
    Due.due("slots of the last", y.count(4), 8);
    Due.due("slot 7", y.look(7, 0), 7);
    Due.due("leave", y.leave(true), 11);
    Due.due("enter", y.enter(1), 12);
    Due.due("slot 0", y.look(0, 0), 1);
    Due.due("slot 1", y.shape(1, 0), NONE);
    for (int i = 11; i >= 1; i--) {
      Due.due("leave", y.leave(false), i);
    }
    Due.due("the only one", y.leave(false), NONE);
  }

  private static void leaveWithout() {
    CellYard y = withTold();
    told(y, 1);
    toldTo(y, 0, 2);
    y.enter(0);
    toldTo(y, 7, 3);
    toldTo(y, 0, 4);
    toldTo(y, 3, 5);
    told(y, 6, 7, 8);
    Due.due("leave", y.leave(false), 1);
    Due.outs("HAND, the latest first, then SLOTS", y, 8, 7, 6, 3, 5, 4);
    Due.counts("left", y, 2, 1, 1, 1, 1, 0, 0, 8, 6, 6);
    Due.due("slot 0", y.look(0, 1), 2);
    Due.due("again", y.enter(0), 2);
    for (int slot = 0; slot < 8; slot++) {
      Due.due("empty " + slot, y.shape(slot, 0), NONE);
    }
  }

  private static void leaveAnswers() {
    CellYard y = withTold();
    told(y, 1);
    y.enter(0);
    toldTo(y, 0, 4);
    toldTo(y, 1, 5);
    told(y, 6, 7, 8);
    Due.due("leave", y.leave(true), 1);
    Due.outs("but for the top", y, 7, 6, 5, 4);
    Due.counts("left", y, 2, 1, 2, 2, 0, 0, 0, 6, 4, 4);
    y.store(0);
    Due.due("the answer", y.look(0, 1), 8);
    y.store(0);
    Due.due("what was there", y.look(0, 1), 1);
    for (int i = 0; i < 23; i++) {
      y.number(i);
    }
    y.enter(0);
    told(y, 9);
    Due.due("24 in HAND", y.count(2), 24);
    Due.due("leave", y.leave(true), 1);
    Due.due("24 in HAND", y.count(2), 24);
    Due.due("top", y.set(0, 0), 1);
    Due.due("the answer", y.look(0, 1), 9);
  }

  private static void leaveRefuses() {
    CellYard y = withTold();
    told(y, 1);
    Due.due("the only one", y.leave(false), NONE);
    Due.due("the only one", y.leave(true), NONE);
    y.enter(0);
    toldTo(y, 0, 2);
    Due.due("answers without a value", y.leave(true), NONE);
    Due.counts("same as ever", y, 2, 2, 1, 0, 1, 0, 0, 2, 0, 0);
    Due.due("without", y.leave(false), 1);
    Due.outs("it", y, 2);
  }

  private static void partsOfHand() {
    CellYard y = withTold();
    told(y, 1, 2, 3);
    y.enter(1);
    told(y, 4, 5);
    y.enter(0);
    told(y, 6);
    Due.counts("three FRAMES", y, 2, 3, 5, 1, 1);
    Due.due("leave", y.leave(true), 2);
    Due.counts("two FRAMES", y, 2, 2, 5, 3, 1);
    Due.due("enter", y.enter(3), 3);
    Due.counts("three FRAMES", y, 2, 3, 2, 0, 4);
    y.leave(false);
    Due.outs("slots from the last", y, 6, 5, 4);
    y.leave(false);
    Due.outs("then", y, 6, 5, 4, 3);
    Due.counts("one FRAME", y, 2, 1, 2, 2, 0);
  }

  private static void fail() {
    CellYard y = withTold();
    int box = y.box(1);
    int row = y.row(1);
    toldTo(y, 0, 1);
    told(y, 2);
    y.make(box, 0);
    y.store(5);
    told(y, 3, 4);
    y.enter(0);
    told(y, 5, 6);
    y.enter(2);
    toldTo(y, 7, 7);
    told(y, 8, 9);
    y.gather(row, 2);
    told(y, 10);
    Due.counts("ahead", y, 4, 3, 4, 2, 5, 1, 1, 10, 0, 0);
    Due.due("fail", y.fail(), 3);
    Due.outs("all", y, 10, 8, 9, 7, 6, 5, 4, 3, 2, 1);
    Due.counts("failed", y, 4, 1, 0, 0, 0, 0, 0, 10, 10, 10);
    Due.due("the only one", y.leave(false), NONE);
    told(y, 11);
    Due.due("enter", y.enter(1), 2);
    Due.due("slot 0", y.look(0, 1), 11);
    Due.due("slot 7", y.shape(7, 0), NONE);
    told(y, 12);
    Due.due("again", y.fail(), 2);
    Due.outs("more", y, 10, 8, 9, 7, 6, 5, 4, 3, 2, 1, 12, 11);
  }

  private static void failOfOne() {
    CellYard y = new CellYard();
    Due.due("nothing there", y.fail(), 1);
    Due.counts("new", y, 1, 1, 0, 0, 0, 0, 0, 0, 0, 0);
    for (int i = 2; i <= 12; i++) {
      y.enter(0);
    }
    Due.due("twelve", y.fail(), 12);
    Due.due("one", y.count(1), 1);
    y.number(3);
    Due.due("HAND", y.count(3), 1);
    Due.due("drop", y.drop(), 1);
  }
}
