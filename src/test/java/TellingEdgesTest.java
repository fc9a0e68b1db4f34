/** The edges that promises 23 to 27 name, sentence by sentence; none of these calls changes anything. */
public final class TellingEdgesTest {
  private static final int NONE = Due.NONE;
  private static final int INT = Scenes.INT;
  private static final int TOLD = Scenes.TOLD;

  public static void main(String[] args) {
    shapeAtAPlace();
    shapeAtNoPlace();
    lookAtAnInt();
    lookWhereThereIsNone();
    stateOfAChoice();
    stateOfARow();
    stateOfNeither();
    outNumberI();
    outIfThereIsNone();
    countAtFirst();
    countEach();
    countAnotherWhat();
    Due.finish();
  }

  private static void shape(int slot, int path, int want) {
    Edge.unchanged("shape at (" + slot + ", " + Integer.toHexString(path) + ")", Scenes::usual, y -> y.shape(slot, path), want);
  }

  // Promise 23: "The SHAPE of what is at a PLACE"
  private static void shapeAtAPlace() {
    int[] slots = {Scenes.ROW, Scenes.BOX, Scenes.CHOICE, Scenes.PAIR, Scenes.INTS, Scenes.INTS, INT};
    for (int slot = 0; slot < slots.length; slot++) {
      shape(slot, 0, slots[slot]);
    }
    shape(0, 8, TOLD);
    shape(0, 9, TOLD);
    shape(0, 0x19, INT);
    shape(1, 5, TOLD);
    shape(1, 0x15, INT);
    shape(2, 6, TOLD);
    shape(2, 0x16, INT);
    shape(3, 1, INT);
    shape(3, 2, INT);
    shape(4, 8, INT);
    shape(4, 15, INT);
  }

  // "NONE .. no such .. SLOT, PLACE"
  private static void shapeAtNoPlace() {
    shape(7, 0, NONE);
    shape(8, 0, NONE);
    shape(-1, 0, NONE);
    shape(0, 10, NONE);
    shape(0, 7, NONE);
    shape(3, 3, NONE);
    shape(3, 4, NONE);
    shape(5, 8, NONE);
    shape(6, 1, NONE);
    shape(6, -1, NONE);
    shape(6, 0x1000000, NONE);
  }

  private static void look(int slot, int path, long want) {
    Edge.unchanged("look at (" + slot + ", " + Integer.toHexString(path) + ")", Scenes::usual, y -> y.look(slot, path), want);
  }

  // Promise 24: "The INT at a PLACE"
  private static void lookAtAnInt() {
    look(6, 0, 28);
    look(0, 0x18, 10);
    look(0, 0x19, 11);
    look(1, 0x15, 12);
    look(2, 0x16, 13);
    look(3, 1, 14);
    look(3, 2, 15);
    look(4, 8, 20);
    look(4, 15, 27);
    long[] all = {Long.MIN_VALUE, Long.MAX_VALUE, -1, 0};
    for (long v : all) {
      CellYard y = new CellYard();
      y.number(v);
      y.store(0);
      Due.due("look", y.look(0, 0), v);
    }
  }

  // Promise 24: "0 if there is none": no INT, no value, no such PLACE
  private static void lookWhereThereIsNone() {
    look(0, 0, 0);
    look(0, 8, 0);
    look(1, 0, 0);
    look(1, 5, 0);
    look(2, 0, 0);
    look(2, 6, 0);
    look(3, 0, 0);
    look(3, 3, 0);
    look(4, 0, 0);
    look(4, 7, 0);
    look(5, 8, 0);
    look(6, 1, 0);
    look(6, -1, 0);
    look(6, 0x1000000, 0);
    look(6, Integer.MIN_VALUE, 0);
    look(7, 0, 0);
    look(8, 0, 0);
    look(-1, 0, 0);
    look(-2, 0, 0);
    look(Integer.MIN_VALUE, 0, 0);
    look(Integer.MAX_VALUE, 0, 0);
    Edge.unchanged("a RECORD of one INT", Edge.with(Scenes::usual, y -> {
      y.make(Scenes.ONE, 0);
      y.store(7);
    }), y -> y.look(7, 0), 0);
  }

  // Promise 25: "The variant of the CHOICE"
  private static void stateOfAChoice() {
    Edge.unchanged("variant 2", Scenes::usual, y -> y.state(2, 0), 2);
    for (int variant = 0; variant < 3; variant++) {
      int v = variant;
      Edge.unchanged("variant " + v + " of no parts", Edge.with(Scenes::usual, y -> {
        y.choice(NONE, NONE, NONE);
        y.make(Scenes.SHAPES, v);
        y.store(7);
      }), y -> y.state(7, 0), v);
    }
    Edge.unchanged("the innermost", () -> Scenes.boxes(4), y -> y.state(7, 0x565656), 0);
    Edge.unchanged("the one ahead of it", () -> Scenes.boxes(4), y -> y.state(7, 0x5656), 1);
  }

  // Promise 25: "or how many elements the ROW has"
  private static void stateOfARow() {
    Edge.unchanged("two", Scenes::usual, y -> y.state(0, 0), 2);
    Edge.unchanged("eight", Scenes::usual, y -> y.state(4, 0), 8);
    Edge.unchanged("none", Scenes::usual, y -> y.state(5, 0), 0);
    Edge.unchanged("none, in a ROW", () -> Scenes.rows(12), y -> y.state(6, 15), 0);
  }

  // Promise 25 and "NONE .. no such .. PLACE .. of another SHAPE than told"
  private static void stateOfNeither() {
    int[][] places = {{0, 8}, {0, 10}, {1, 0}, {1, 5}, {2, 6}, {2, 0x16}, {3, 0}, {3, 1}, {4, 8}, {5, 8}, {6, 0},
        {7, 0}, {8, 0}, {-1, 0}, {0, -1}, {2, 0x1000000}, {0, Integer.MIN_VALUE}, {Integer.MIN_VALUE, 0}};
    for (int[] place : places) {
      Edge.none("state at (" + place[0] + ", " + place[1] + ")", Scenes::usual, y -> y.state(place[0], place[1]));
    }
  }

  private static CellYard dropped(int n) {
    CellYard y = Scenes.shapes();
    for (int i = 0; i < n; i++) {
      Scenes.told(y, 500 + i);
      y.drop();
    }
    return y;
  }

  // Promise 26: "Number i of OUT"
  private static void outNumberI() {
    for (int i = 0; i < 5; i++) {
      int number = i;
      Edge.unchanged("out " + i, () -> dropped(5), y -> y.out(number), 500 + i);
    }
    CellYard y = dropped(0);
    Scenes.told(y, Long.MIN_VALUE, Long.MAX_VALUE);
    y.drop();
    y.drop();
    Due.outs("any long", y, Long.MAX_VALUE, Long.MIN_VALUE);
  }

  // Promise 26: "0 if there is none"
  private static void outIfThereIsNone() {
    int[] none = {5, 6, 399, 400, 401, -1, Integer.MIN_VALUE, Integer.MAX_VALUE};
    for (int i : none) {
      Edge.unchanged("out " + i, () -> dropped(5), y -> y.out(i), 0);
    }
    Edge.unchanged("out 0 of none", () -> dropped(0), y -> y.out(0), 0);
  }

  // Promises 1 and 27
  private static void countAtFirst() {
    int[] first = {1, 1, 0, 0, 0, 0, 0, 0, 0, 0};
    for (int what = 0; what < first.length; what++) {
      int w = what;
      Edge.unchanged("count " + w, CellYard::new, y -> y.count(w), first[what]);
    }
  }

  // Promise 27: "What 0: SHAPES, 1: FRAMES, 2: values in HAND, 3: of these the last FRAME's, 4: SLOTS of all FRAMES that have values, .."
  private static void countEach() {
    int[] usual = {Scenes.SHAPES, 2, 4, 2, 9, 1, 3, 7, 1, 1};
    for (int what = 0; what < usual.length; what++) {
      int w = what;
      Edge.unchanged("count " + w, Scenes::usual, y -> y.count(w), usual[what]);
    }
    Due.due("most SHAPES", Scenes.allShapes().count(0), 24);
    Due.due("most FRAMES", Scenes.allFrames().count(1), 12);
    Due.due("most in HAND", Scenes.fullHand().count(2), 24);
    Due.due("most of the last FRAME's", Edge.with(CellYard::new, y -> Scenes.fillHand(y, 24)).get().count(3), 24);
    Due.due("most BOXES", Scenes.allBoxes().count(5), 60);
    Due.due("most ROWS", Scenes.allRows().count(6), 20);
    CellYard slots = new CellYard();
    for (int i = 0; i < 96; i++) {
      slots.number(i);
      slots.store(i % 8);
      Due.due("SLOTS", slots.count(4), i + 1);
      if (i % 8 == 7) {
        slots.enter(0);
      }
    }
  }

  // Promise 27: "NONE for another what"
  private static void countAnotherWhat() {
    int[] others = {-1, -2, 10, 11, Integer.MIN_VALUE, Integer.MAX_VALUE};
    for (int what : others) {
      Edge.none("count " + what, Scenes::usual, y -> y.count(what));
    }
  }
}
