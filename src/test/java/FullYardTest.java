/** The document's limits all at once: no value ever lies in another one's cells. */
public final class FullYardTest {
  private static final int NONE = Due.NONE;
  private static final int FULL = Due.FULL;
  private static final int[] WIDE_PATHS = {0x11, 0x21, 0x31, 0x12, 0x22, 0x32, 0x13, 0x23};

  public static void main(String[] args) {
    allSlots();
    wideEverywhere();
    wideInAllRows();
    allBoxes();
    Due.finish();
  }

  /** SHAPES 1 to 3: the last one a RECORD of SIZE 8, all INTs in the end. */
  private static CellYard withWide() {
    CellYard y = new CellYard();
    y.record(false, 0, 0, 0);
    y.record(false, 0, 0, NONE);
    y.record(false, 1, 1, 2);
    return y;
  }

  private static void wide(CellYard y, long first) {
    for (int i = 0; i < 8; i++) {
      y.number(first + i);
      if (i == 2 || i == 5) {
        y.make(1, 0);
      }
    }
    y.make(2, 0);
    Due.due("wide", y.make(3, 0), 1);
  }

  private static void lookWide(String where, CellYard y, int slot, int path, int digits, long first) {
    for (int i = 0; i < 8; i++) {
      Due.due(where + ", number " + i, y.look(slot, path | WIDE_PATHS[i] << 4 * digits), first + i);
    }
  }

  private static void allSlots() {
    CellYard y = new CellYard();
    int box = y.box(0);
    for (int frame = 0; frame < 12; frame++) {
      Due.due("frame", frame == 0 ? 1 : y.enter(0), frame + 1);
      for (int slot = 0; slot < 8; slot++) {
        y.number(100 * frame + slot);
        if (slot >= 3) {
          Due.due("box", y.make(box, 0), 1);
        }
        y.store(slot);
      }
    }
    Due.counts("all", y, 2, 12, 0, 0, 96, 60, 0);
    y.number(1);
    Due.due("61st", y.make(box, 0), FULL);
    y.drop();
    for (int frame = 11; frame >= 0; frame--) {
      for (int slot = 0; slot < 8; slot++) {
        Due.due("frame " + frame + ", slot " + slot, y.look(slot, slot >= 3 ? 5 : 0), 100 * frame + slot);
      }
      y.leave(false);
    }
    Due.counts("one left", y, 2, 1, 0, 0, 8, 5, 0);
  }

  private static void wideEverywhere() {
    CellYard y = withWide();
    int box = y.box(3);
    int row = y.row(3);
    for (int i = 0; i < 10; i++) {
      wide(y, 100 * i);
      if (i == 3 || i == 4) {
        y.make(box, 0);
      }
      if (i == 7) {
        y.gather(row, 3);
      }
    }
    Due.due("frame", y.enter(8), 2);
    for (int slot = 0; slot < 3; slot++) {
      lookWide("slot " + slot, y, slot, 0, 0, 100 * slot);
    }
    lookWide("box", y, 3, 5, 1, 300);
    lookWide("next box", y, 4, 5, 1, 400);
    for (int i = 0; i < 3; i++) {
      lookWide("element " + i, y, 5, 8 + i, 1, 500 + 100 * i);
    }
    lookWide("slot 6", y, 6, 0, 0, 800);
    lookWide("slot 7", y, 7, 0, 0, 900);
    y.load(6);
    Due.due("swap", y.swap(5, 9), 1);
    lookWide("came", y, 5, 9, 1, 800);
    y.store(6);
    lookWide("went", y, 6, 0, 0, 600);
    y.load(7);
    Due.due("set", y.set(4, 5), 1);
    lookWide("set", y, 4, 5, 1, 900);
    lookWide("the one ahead", y, 3, 5, 1, 300);
    y.load(0);
    y.load(1);
    Due.due("apart", y.apart(), 3);
    y.make(3, 0);
    y.store(1);
    lookWide("together again", y, 1, 0, 0, 100);
    y.store(0);
    lookWide("below it in HAND", y, 0, 0, 0, 0);
  }

  private static void wideInAllRows() {
    CellYard y = withWide();
    int row = y.row(3);
    int rows = y.row(row);
    for (int slot = 5; slot < 7; slot++) {
      for (int i = 0; i < 8; i++) {
        y.gather(row, 0);
      }
      y.gather(rows, 8);
      y.store(slot);
    }
    y.gather(row, 0);
    y.store(1);
    for (int i = 0; i < 5; i++) {
      wide(y, 1000 + 100 * i);
    }
    Due.due("the 20th", y.gather(row, 5), 1);
    y.store(0);
    for (int i = 5; i < 8; i++) {
      wide(y, 1000 + 100 * i);
      Due.due("push", y.push(0, 0), i + 1);
    }
    for (int i = 0; i < 8; i++) {
      wide(y, 2000 + 100 * i);
      Due.due("push", y.push(1, 0), i + 1);
    }
    for (int i = 0; i < 8; i++) {
      lookWide("last row, element " + i, y, 0, 8 + i, 1, 1000 + 100 * i);
      lookWide("row ahead, element " + i, y, 1, 8 + i, 1, 2000 + 100 * i);
    }
    Due.due("pop", y.pop(0, 0), 7);
    y.store(2);
    lookWide("popped", y, 2, 0, 0, 1700);
    Due.due("20 there", y.count(6), 20);
  }

  /** A place that is free again is taken again, and the others keep what is in them. */
  private static void allBoxes() {
    CellYard y = new CellYard();
    int box = y.box(0);
    int row = y.row(box);
    for (int i = 0; i < 60; i++) {
      y.number(i);
      y.make(box, 0);
      if (i % 8 == 7) {
        y.gather(row, 8);
        y.store(i / 8);
      }
    }
    y.gather(row, 4);
    y.store(7);
    for (int slot = 0; slot < 7; slot++) {
      y.pop(slot, 0);
      y.drop();
    }
    Due.due("53", y.count(5), 53);
    for (int slot = 6; slot >= 0; slot--) {
      y.number(100 + slot);
      y.make(box, 0);
      Due.due("push", y.push(slot, 0), 8);
    }
    Due.due("60", y.count(5), 60);
    for (int i = 0; i < 60; i++) {
      Due.due("box " + i, y.look(i / 8, 0x58 + i % 8), i % 8 == 7 ? 100 + i / 8 : i);
    }
    Due.due("fail", y.fail(), 1);
    Due.counts("failed", y, 3, 1, 0, 0, 0, 0, 0);
  }
}
