/** Yards to begin with, so full of things that a refused call that changes one is seen. */
final class Scenes {
  static final int INT = 0;
  static final int TOLD = 1;
  static final int PAIR = 2;
  /** Variant 0 has no part, 1 an INT, 2 a TOLD. */
  static final int CHOICE = 3;
  static final int BOX = 4;
  static final int ROW = 5;
  static final int LOOSE = 6;
  static final int INTS = 7;
  static final int ONE = 8;
  static final int TRIPLE = 9;
  static final int LINK = 10;
  /** Variant 0 has no part, 1 a LINK, which is a BOX of a CHAIN. */
  static final int CHAIN = 11;
  static final int GRID = 12;
  static final int SHAPES = 13;

  private Scenes() {
  }

  /** SHAPES alone. */
  static CellYard shapes() {
    CellYard y = new CellYard();
    y.record(true, INT, Due.NONE, Due.NONE);
    y.record(false, INT, INT, Due.NONE);
    y.choice(Due.NONE, INT, TOLD);
    y.box(TOLD);
    y.row(TOLD);
    y.box(Due.NONE);
    y.row(INT);
    y.record(false, INT, Due.NONE, Due.NONE);
    y.record(false, INT, INT, INT);
    y.box(Due.NONE);
    y.choice(Due.NONE, LINK, Due.NONE);
    y.tie(LINK, CHAIN);
    y.row(INTS);
    return y;
  }

  /**
   * Two FRAMES. The first: SLOT 0 a TOLD, SLOT 7 an INT, HAND an INT and a TOLD. The last: SLOT 0 a
   * ROW of two, 1 a BOX, 2 a CHOICE of variant 2, 3 a PAIR, 4 INTS of eight, 5 INTS of none, 6 an
   * INT, 7 nothing, HAND two INTs. OUT has one.
   */
  static CellYard usual() {
    CellYard y = shapes();
    told(y, 1);
    y.store(0);
    y.number(5);
    y.store(7);
    told(y, 2);
    y.drop();
    y.number(3);
    told(y, 4);
    y.enter(0);
    told(y, 10, 11);
    y.gather(ROW, 2);
    y.store(0);
    told(y, 12);
    y.make(BOX, 0);
    y.store(1);
    told(y, 13);
    y.make(CHOICE, 2);
    y.store(2);
    numbers(y, 14, 2);
    y.make(PAIR, 0);
    y.store(3);
    numbers(y, 20, 8);
    y.gather(INTS, 8);
    y.store(4);
    y.gather(INTS, 0);
    y.store(5);
    y.number(28);
    y.store(6);
    numbers(y, 30, 2);
    return y;
  }

  static void told(CellYard y, long... all) {
    for (long v : all) {
      y.number(v);
      y.make(TOLD, 0);
    }
  }

  static void numbers(CellYard y, long first, int n) {
    for (int i = 0; i < n; i++) {
      y.number(first + i);
    }
  }

  static CellYard toldOnTop() {
    CellYard y = usual();
    told(y, 32);
    return y;
  }

  static CellYard pairOnTop() {
    CellYard y = usual();
    numbers(y, 32, 2);
    y.make(PAIR, 0);
    return y;
  }

  static CellYard boxOnTop() {
    CellYard y = toldOnTop();
    y.make(BOX, 0);
    return y;
  }

  static CellYard rowOnTop() {
    CellYard y = usual();
    told(y, 32, 33);
    y.gather(ROW, 2);
    return y;
  }

  static CellYard choiceOnTop() {
    CellYard y = toldOnTop();
    y.make(CHOICE, 2);
    return y;
  }

  /** The last FRAME's part of HAND has nothing, that of the FRAME ahead has a TOLD on top. */
  static CellYard nothingInHand() {
    CellYard y = usual();
    y.drop();
    y.drop();
    return y;
  }

  /** So many values in HAND, an INT on top. */
  static CellYard inHand(int n) {
    CellYard y = usual();
    fillHand(y, n);
    return y;
  }

  static CellYard fullHand() {
    return inHand(24);
  }

  static void fillHand(CellYard y, int n) {
    for (int i = y.count(2); i < n; i++) {
      y.number(100 + i);
    }
  }

  /** So many BOXES there, all but one in a CHAIN in SLOT 7; HAND as in usual(). */
  static CellYard boxes(int n) {
    CellYard y = usual();
    y.make(CHAIN, 0);
    for (int i = 1; i < n; i++) {
      y.make(LINK, 0);
      y.make(CHAIN, 1);
    }
    y.store(7);
    return y;
  }

  static CellYard allBoxes() {
    return boxes(60);
  }

  /** So many ROWS there, 12 to 20 of them: GRIDS in SLOTS 6 and 7; HAND as in usual(). */
  static CellYard rows(int n) {
    CellYard y = usual();
    grid(y, 8);
    y.store(6);
    if (n > 12) {
      grid(y, n - 13);
      y.store(7);
    }
    return y;
  }

  private static void grid(CellYard y, int n) {
    for (int i = 0; i < n; i++) {
      y.gather(INTS, 0);
    }
    y.gather(GRID, n);
  }

  static CellYard allRows() {
    return rows(20);
  }

  /** So many FRAMES, the last one with a value in SLOT 0 and two INTs in HAND. */
  static CellYard frames(int n) {
    CellYard y = usual();
    for (int i = 2; i < n; i++) {
      numbers(y, 40 + i, 1);
      y.enter(1);
    }
    numbers(y, 60, 2);
    return y;
  }

  static CellYard allFrames() {
    return frames(12);
  }

  /** 24 SHAPES. */
  static CellYard allShapes() {
    CellYard y = usual();
    for (int i = SHAPES; i < 24; i++) {
      y.record(false, INT, Due.NONE, Due.NONE);
    }
    return y;
  }
}
