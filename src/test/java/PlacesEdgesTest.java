import java.util.function.Supplier;

/** The edges that promises 14 to 19 name, sentence by sentence; what is refused changes nothing. */
public final class PlacesEdgesTest {
  private static final int NONE = Due.NONE;
  private static final int INT = Scenes.INT;
  private static final int TOLD = Scenes.TOLD;

  public static void main(String[] args) {
    storeToASlot();
    storeRefuses();
    storeDropsAhead();
    loadASlotsValue();
    loadRefuses();
    loadIsFull();
    setOfTheShapeThatIsThere();
    setDropsAhead();
    setRefuses();
    swapBothOfOneShape();
    swapRefuses();
    pushHowMany();
    pushIsFullAtEight();
    pushRefuses();
    popHowManyAreLeft();
    popIfItHasNone();
    popRefuses();
    popIsFull();
    Due.finish();
  }

  // Promise 14: "The top of HAND goes to a SLOT"
  private static void storeToASlot() {
    for (int slot = 0; slot < 8; slot++) {
      int s = slot;
      CellYard y = Edge.done("store to " + s, Scenes::toldOnTop, x -> x.store(s), 1);
      Due.due("HAND", y.count(3), 2);
      Due.due("SLOTS", y.count(4), s == 7 ? 10 : 9);
      Due.due("it", y.look(s, 1), 32);
    }
  }

  // "no such SLOT .. value", "too few"
  private static void storeRefuses() {
    Edge.none("nothing in HAND, an empty SLOT", Scenes::nothingInHand, y -> y.store(7));
    Edge.none("nothing in HAND, a SLOT that has a value", Scenes::nothingInHand, y -> y.store(0));
    Edge.none("SLOT 8", Scenes::toldOnTop, y -> y.store(8));
    Edge.none("SLOT -1", Scenes::toldOnTop, y -> y.store(-1));
    Edge.none("SLOT 8, nothing in HAND", Scenes::nothingInHand, y -> y.store(8));
  }

  // Promise 14: "what that has is DROPPED ahead", of whatever SHAPE
  private static void storeDropsAhead() {
    Due.outs("a ROW", Edge.done("store", Scenes::toldOnTop, y -> y.store(0), 1), 2, 10, 11);
    Due.outs("a BOX", Edge.done("store", Scenes::toldOnTop, y -> y.store(1), 1), 2, 12);
    Due.outs("a CHOICE", Edge.done("store", Scenes::toldOnTop, y -> y.store(2), 1), 2, 13);
    Due.outs("a PAIR", Edge.done("store", Scenes::toldOnTop, y -> y.store(3), 1), 2);
    Due.outs("nothing", Edge.done("store", Scenes::toldOnTop, y -> y.store(7), 1), 2);
    CellYard y = Edge.done("a BOX to where a BOX is", Scenes::boxOnTop, x -> x.store(1), 1);
    Due.outs("what was there", y, 2, 12);
    Due.due("BOXES", y.count(5), 1);
    Due.due("what came", y.look(1, 0x15), 32);
  }

  // Promise 15: "A SLOT's value goes to HAND": it is no more in the SLOT
  private static void loadASlotsValue() {
    for (int slot = 0; slot < 7; slot++) {
      int s = slot;
      CellYard y = Scenes.usual();
      int shape = y.shape(s, 0);
      Due.due("load " + s, y.load(s), 1);
      Due.due("HAND", y.count(3), 3);
      Due.due("SLOTS", y.count(4), 8);
      Due.due("it went", y.shape(s, 0), NONE);
      Due.due("nothing told", y.count(8), 1);
      Due.due("store", y.store(7), 1);
      Due.due("it", y.shape(7, 0), shape);
    }
  }

  // "no such SLOT .. value"
  private static void loadRefuses() {
    Edge.none("nothing in it", Scenes::usual, y -> y.load(7));
    Edge.none("nothing in it any more", Edge.with(Scenes::usual, y -> y.load(0)), y -> y.load(0));
    Edge.none("SLOT 8", Scenes::usual, y -> y.load(8));
    Edge.none("SLOT -1", Scenes::usual, y -> y.load(-1));
    Edge.none("a FRAME ahead", Edge.with(Scenes::usual, y -> y.enter(0)), y -> y.load(0));
  }

  // "FULL .. in HAND"
  private static void loadIsFull() {
    for (int slot = 0; slot < 7; slot++) {
      int s = slot;
      Edge.full("load " + s, Scenes::fullHand, y -> y.load(s));
      Due.due("the 24th", Edge.done("load " + s, () -> Scenes.inHand(23), y -> y.load(s), 1).count(2), 24);
    }
    Edge.none("nothing in it", Scenes::fullHand, y -> y.load(7));
  }

  // Promise 16: "The top of HAND, of the SHAPE that is there, goes to a PLACE"
  private static void setOfTheShapeThatIsThere() {
    set("an element", Scenes::toldOnTop, 0, 8);
    set("the last element", Scenes::toldOnTop, 0, 9);
    set("what is in a BOX", Scenes::toldOnTop, 1, 5);
    set("the part of a CHOICE", Scenes::toldOnTop, 2, 6);
    set("a BOX", Scenes::boxOnTop, 1, 0);
    set("a ROW", Scenes::rowOnTop, 0, 0);
    CellYard y = Edge.done("a field", Scenes::usual, x -> x.set(3, 2), 1);
    Due.due("it", y.look(3, 2), 31);
    Due.due("the field ahead is as it was", y.look(3, 1), 14);
    CellYard first = Edge.done("a TOLD one's first field", Scenes::usual, x -> x.set(0, 0x18), 1);
    Due.outs("that is no drop of the TOLD one", first, 2);
    first.load(0);
    first.drop();
    Due.outs("it tells its first field as it is", first, 2, 31, 11);
  }

  private static void set(String name, Supplier<CellYard> scene, int slot, int path) {
    CellYard y = scene.get();
    int shape = y.shape(slot, path);
    int inHand = y.count(2);
    Due.due(name, y.set(slot, path), 1);
    Due.due(name + ": SHAPE", y.shape(slot, path), shape);
    Due.due(name + ": HAND", y.count(2), inHand - 1);
    Due.due(name + ": SLOTS", y.count(4), 9);
  }

  // Promise 16: "what is there is DROPPED ahead"
  private static void setDropsAhead() {
    Due.outs("an element", Edge.done("set", Scenes::toldOnTop, y -> y.set(0, 9), 1), 2, 11);
    Due.outs("in a BOX", Edge.done("set", Scenes::toldOnTop, y -> y.set(1, 5), 1), 2, 12);
    Due.outs("a part", Edge.done("set", Scenes::toldOnTop, y -> y.set(2, 6), 1), 2, 13);
    Due.outs("a ROW", Edge.done("set", Scenes::rowOnTop, y -> y.set(0, 0), 1), 2, 10, 11);
    Due.outs("an INT", Edge.done("set", Scenes::usual, y -> y.set(4, 15), 1), 2);
    Due.due("ROWS", Edge.done("set", Scenes::rowOnTop, y -> y.set(0, 0), 1).count(6), 3);
    Due.due("BOXES", Edge.done("set", Scenes::boxOnTop, y -> y.set(1, 0), 1).count(5), 1);
  }

  // "no such SLOT, PLACE .. value; one that is of another SHAPE than told; .. too few"
  private static void setRefuses() {
    Edge.none("an INT where a TOLD is", Scenes::usual, y -> y.set(0, 8));
    Edge.none("a TOLD where an INT is", Scenes::toldOnTop, y -> y.set(6, 0));
    Edge.none("a TOLD where a CHOICE with one is", Scenes::toldOnTop, y -> y.set(2, 0));
    Edge.none("a PAIR where an INT of a PAIR is", Scenes::pairOnTop, y -> y.set(3, 1));
    Edge.none("a BOX where what is in one is", Scenes::boxOnTop, y -> y.set(1, 5));
    Edge.none("a ROW of another SHAPE", Scenes::rowOnTop, y -> y.set(4, 0));
    Edge.none("an element behind the last", Scenes::toldOnTop, y -> y.set(0, 10));
    Edge.none("an element of none", Scenes::usual, y -> y.set(5, 8));
    Edge.none("a SLOT without a value", Scenes::usual, y -> y.set(7, 0));
    Edge.none("SLOT 8", Scenes::usual, y -> y.set(8, 0));
    Edge.none("SLOT -1", Scenes::usual, y -> y.set(-1, 0));
    Edge.none("nothing in HAND", Scenes::nothingInHand, y -> y.set(6, 0));
    Edge.none("nothing in HAND, though there is one ahead", Scenes::nothingInHand, y -> y.set(0, 8));
    Edge.none("neither in HAND nor in the SLOT", Scenes::nothingInHand, y -> y.set(7, 0));
    Edge.none("neither in HAND nor at the PATH", Scenes::nothingInHand, y -> y.set(0, 10));
    Edge.none("neither in HAND nor such a SLOT", Scenes::nothingInHand, y -> y.set(8, 0));
    Edge.none("told alike, another one", Edge.with(Scenes::usual, y -> {
      y.record(true, INT, NONE, NONE);
      y.make(Scenes.SHAPES, 0);
    }), y -> y.set(0, 8));
  }

  // Promise 17: "The top of HAND and what is at a PLACE, both of one SHAPE, change places"
  private static void swapBothOfOneShape() {
    int[][] places = {{0, 8}, {0, 9}, {1, 5}, {2, 6}};
    for (int[] place : places) {
      CellYard y = Scenes.toldOnTop();
      long there = y.look(place[0], place[1] | 0x10);
      Due.due("swap", y.swap(place[0], place[1]), 1);
      Due.due("what came", y.look(place[0], place[1] | 0x10), 32);
      Due.due("HAND", y.count(3), 3);
      Due.due("nothing told", y.count(8), 1);
      y.drop();
      Due.outs("what went", y, 2, there);
    }
    CellYard field = Edge.done("a field", Scenes::usual, y -> y.swap(3, 1), 1);
    Due.due("what came", field.look(3, 1), 31);
    Due.due("the field behind it is as it was", field.look(3, 2), 15);
    Edge.unchanged("there and back", Scenes::boxOnTop, y -> y.swap(1, 0) * y.swap(1, 0), 1);
    Edge.unchanged("there and back, inside", Scenes::usual, y -> y.swap(4, 15) * y.swap(4, 15), 1);
    Edge.done("in a full HAND", Scenes::fullHand, y -> y.swap(6, 0), 1);
  }

  private static void swapRefuses() {
    Edge.none("an INT and a TOLD", Scenes::usual, y -> y.swap(0, 8));
    Edge.none("a TOLD and an INT", Scenes::toldOnTop, y -> y.swap(6, 0));
    Edge.none("a PAIR and its field", Scenes::pairOnTop, y -> y.swap(3, 1));
    Edge.none("a BOX and what is in one", Scenes::boxOnTop, y -> y.swap(1, 5));
    Edge.none("a CHOICE and its part", Scenes::choiceOnTop, y -> y.swap(2, 6));
    Edge.none("a ROW of another SHAPE", Scenes::rowOnTop, y -> y.swap(5, 0));
    Edge.none("an element behind the last", Scenes::toldOnTop, y -> y.swap(0, 10));
    Edge.none("a SLOT without a value", Scenes::usual, y -> y.swap(7, 0));
    Edge.none("SLOT 8", Scenes::usual, y -> y.swap(8, 0));
    Edge.none("SLOT -1", Scenes::usual, y -> y.swap(-1, 0));
    Edge.none("nothing in HAND", Scenes::nothingInHand, y -> y.swap(6, 0));
    Edge.none("nothing in HAND, though there is one ahead", Scenes::nothingInHand, y -> y.swap(0, 8));
    Edge.none("neither in HAND nor in the SLOT", Scenes::nothingInHand, y -> y.swap(7, 0));
    Edge.none("neither in HAND nor at the PATH", Scenes::nothingInHand, y -> y.swap(0, 10));
    Edge.none("neither in HAND nor such a SLOT", Scenes::nothingInHand, y -> y.swap(8, 0));
  }

  // Promise 18: "is one element more of it: how many there are"
  private static void pushHowMany() {
    CellYard y = Scenes.fullHand();
    for (int i = 1; i <= 8; i++) {
      Due.due("push", y.push(5, 0), i);
      Due.due("state", y.state(5, 0), i);
      Due.due("HAND", y.count(2), 24 - i);
      Due.due("the last element", y.look(5, 7 + i), 124 - i);
    }
    Due.due("a ninth", y.push(5, 0), Due.FULL);
    CellYard inside = Edge.done("inside a ROW", Edge.with(() -> Scenes.rows(12), x -> x.number(9)), x -> x.push(6, 15), 1);
    Due.due("it", inside.look(6, 0x8F), 9);
    Due.due("the next ROW has none", inside.state(6, 14), 0);
  }

  // Promise 18: "FULL if there are 8"
  private static void pushIsFullAtEight() {
    Edge.full("there are 8", Scenes::usual, y -> y.push(4, 0));
    Supplier<CellYard> seven = Edge.with(Scenes::usual, y -> y.pop(4, 0));
    Edge.done("there are 7", seven, y -> y.push(4, 0), 8);
    Edge.full("there are 8 again", Edge.with(seven, y -> y.push(4, 0)), y -> y.push(4, 0));
  }

  private static void pushRefuses() {
    Edge.none("of another SHAPE", Scenes::usual, y -> y.push(0, 0));
    Edge.none("of another SHAPE, to a ROW of none", Scenes::toldOnTop, y -> y.push(5, 0));
    Edge.none("of another SHAPE, to a ROW of 8", Scenes::toldOnTop, y -> y.push(4, 0));
    Edge.none("a ROW to a ROW like it", Scenes::rowOnTop, y -> y.push(0, 0));
    Edge.none("to an INT", Scenes::usual, y -> y.push(6, 0));
    Edge.none("to a RECORD", Scenes::usual, y -> y.push(3, 0));
    Edge.none("to a BOX of that SHAPE", Scenes::toldOnTop, y -> y.push(1, 0));
    Edge.none("to a CHOICE", Scenes::toldOnTop, y -> y.push(2, 0));
    Edge.none("to an element", Scenes::usual, y -> y.push(4, 8));
    Edge.none("behind the last element", Scenes::toldOnTop, y -> y.push(0, 10));
    Edge.none("a SLOT without a value", Scenes::usual, y -> y.push(7, 0));
    Edge.none("SLOT 8", Scenes::usual, y -> y.push(8, 0));
    Edge.none("SLOT -1", Scenes::usual, y -> y.push(-1, 0));
    Edge.none("nothing in HAND", Scenes::nothingInHand, y -> y.push(5, 0));
    Edge.none("nothing in HAND, though there is one ahead", Scenes::nothingInHand, y -> y.push(0, 0));
    Edge.none("neither in HAND nor in the SLOT", Scenes::nothingInHand, y -> y.push(7, 0));
    Edge.none("neither in HAND nor at the PATH", Scenes::nothingInHand, y -> y.push(0, 10));
    Edge.none("neither in HAND nor such a SLOT", Scenes::nothingInHand, y -> y.push(8, 0));
    Edge.none("nothing in HAND at all, to an INT", Edge.with(CellYard::new, y -> {
      y.number(1);
      y.store(0);
    }), y -> y.push(0, 0));
    Edge.none("nothing in HAND, to a ROW of LOOSE BOXES", Edge.with(CellYard::new, y -> {
      y.row(y.box(NONE));
      y.gather(2, 0);
      y.store(0);
    }), y -> y.push(0, 0));
  }

  // Promise 19: "The last element .. goes to HAND: how many are left"
  private static void popHowManyAreLeft() {
    CellYard y = Scenes.usual();
    for (int left = 7; left >= 0; left--) {
      Due.due("pop", y.pop(4, 0), left);
      Due.due("state", y.state(4, 0), left);
      Due.due("HAND", y.count(3), 10 - left);
      Due.due("no more there", y.shape(4, 8 + left), NONE);
    }
    for (int i = 0; i < 8; i++) {
      y.store(7);
      Due.due("the last one first", y.look(7, 0), 20 + i);
    }
    Due.due("the ROW is there", y.count(6), 3);
    CellYard told = Edge.done("pop a TOLD", Scenes::usual, x -> x.pop(0, 0), 1);
    Due.due("it is not dropped", told.count(8), 1);
  }

  // Promise 19: "NONE if it has none, too"
  private static void popIfItHasNone() {
    Edge.none("never had one", Scenes::usual, y -> y.pop(5, 0));
    Edge.none("has none any more", Edge.with(Scenes::usual, y -> {
      y.pop(0, 0);
      y.pop(0, 0);
    }), y -> y.pop(0, 0));
    Edge.none("in a full HAND", Scenes::fullHand, y -> y.pop(5, 0));
    Edge.none("inside a ROW", () -> Scenes.rows(12), y -> y.pop(6, 8));
  }

  private static void popRefuses() {
    Edge.none("of an INT", Scenes::usual, y -> y.pop(6, 0));
    Edge.none("of a RECORD", Scenes::usual, y -> y.pop(3, 0));
    Edge.none("of a BOX", Scenes::usual, y -> y.pop(1, 0));
    Edge.none("of a CHOICE", Scenes::usual, y -> y.pop(2, 0));
    Edge.none("of an element", Scenes::usual, y -> y.pop(0, 8));
    Edge.none("behind the last element", Scenes::usual, y -> y.pop(0, 10));
    Edge.none("a SLOT without a value", Scenes::usual, y -> y.pop(7, 0));
    Edge.none("SLOT 8", Scenes::usual, y -> y.pop(8, 0));
    Edge.none("SLOT -1", Scenes::usual, y -> y.pop(-1, 0));
  }

  // "FULL .. in HAND"
  private static void popIsFull() {
    Edge.full("24 in HAND", Scenes::fullHand, y -> y.pop(4, 0));
    Edge.full("24 in HAND, a TOLD", Scenes::fullHand, y -> y.pop(0, 0));
    CellYard y = Edge.done("23 in HAND", () -> Scenes.inHand(23), x -> x.pop(0, 0), 1);
    Due.due("24", y.count(2), 24);
    y.store(7);
    Due.due("it", y.look(7, 1), 11);
    Due.due("a TOLD", y.shape(7, 0), TOLD);
  }
}
